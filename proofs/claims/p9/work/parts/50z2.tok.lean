-- THE CLASS'S READER: ITS TOKENS
theorem ok_106 : rg_okb 106 = true := by decide +kernel
section
variable {i pc pc' : Nat} {lv : List (Nat × Value)} {st : List Value} {h : MH} {Q : Option Value → MH → Prop}
theorem hM_mulw {x y : Int32} (a : m_at i pc = some (.imul, 1)) (hp : pc + 1 = pc') (g : ∀ (w : Int32) (z : Int), w.toInt = z → -2147483648 ≤ z → z ≤ 2147483647 → HJ i pc' lv (.int w :: st) h Q) : HJ i pc lv (.int y :: .int x :: st) h Q := hI_mul a hp (g _ _ rfl (g_iT _).1 (g_iT _).2)
end
section
variable {lv : List (Nat × Value)} {Q : Option Value → MH → Prop} {W : List (Nat × Nat)} {ρ : Nat → Nat} {m : Nat} {A : Nat → Nat} {h0 h : MH} {F : Nat → Int} {V : Nat → Nat → Int} {G : Nat → Nat → Int64}
theorem s_il {c : Int}  {lx0 : Int32} (e0 : m_lk lv 0 = some (.int lx0)) (lq0 : lx0.toInt = c) 
    (g0 : ∀ x2 : Int32, x2.toInt = 0 → c < 97 → Q (some (.int x2)) h)
    (g1 : ∀ x4 : Int32, x4.toInt = 0 → c ≥ 97 → c > 122 → Q (some (.int x4)) h)
    (g2 : ∀ x5 : Int32, x5.toInt = 1 → c ≥ 97 → c ≤ 122 → Q (some (.int x5)) h)
    : HJ 17 0 lv [] h Q := by
  refine hI_il (k := 0) rfl e0 rfl ?_ -- 0
  refine hM_bp (n := 97) rfl (by decide) rfl (fun x1 q1 => ?_) -- 1
  refine hM_clt (off := 13) (t := 16) rfl lq0 q1 (by decide) rfl (fun c3 => ?_) (fun c3 => ?_) -- 3
  · refine hM_ic (n := 0) rfl (by decide) rfl (fun x2 q2 => ?_) -- 16
    refine hM_rb rfl rfl q2 (by omega) (by omega) ?_ -- 17
    exact g0 x2 q2 c3
  · refine hI_il (k := 0) rfl e0 rfl ?_ -- 6
    refine hM_bp (n := 122) rfl (by decide) rfl (fun x3 q3 => ?_) -- 7
    refine hM_cgt (off := 7) (t := 16) rfl lq0 q3 (by decide) rfl (fun c9 => ?_) (fun c9 => ?_) -- 9
    · refine hM_ic (n := 0) rfl (by decide) rfl (fun x4 q4 => ?_) -- 16
      refine hM_rb rfl rfl q4 (by omega) (by omega) ?_ -- 17
      exact g1 x4 q4 c3 c9
    · refine hM_ic (n := 1) rfl (by decide) rfl (fun x5 q5 => ?_) -- 12
      refine hI_go (pc' := 17) (off := 4) rfl (by decide) ?_ -- 13
      refine hM_rb rfl rfl q5 (by omega) (by omega) ?_ -- 17
      exact g2 x5 q5 c3 c9
theorem s_id {c : Int}  {lx0 : Int32} (e0 : m_lk lv 0 = some (.int lx0)) (lq0 : lx0.toInt = c) 
    (g0 : ∀ x2 : Int32, x2.toInt = 0 → c < 48 → Q (some (.int x2)) h)
    (g1 : ∀ x4 : Int32, x4.toInt = 0 → c ≥ 48 → c > 57 → Q (some (.int x4)) h)
    (g2 : ∀ x5 : Int32, x5.toInt = 1 → c ≥ 48 → c ≤ 57 → Q (some (.int x5)) h)
    : HJ 32 0 lv [] h Q := by
  refine hI_il (k := 0) rfl e0 rfl ?_ -- 0
  refine hM_bp (n := 48) rfl (by decide) rfl (fun x1 q1 => ?_) -- 1
  refine hM_clt (off := 13) (t := 16) rfl lq0 q1 (by decide) rfl (fun c3 => ?_) (fun c3 => ?_) -- 3
  · refine hM_ic (n := 0) rfl (by decide) rfl (fun x2 q2 => ?_) -- 16
    refine hM_rb rfl rfl q2 (by omega) (by omega) ?_ -- 17
    exact g0 x2 q2 c3
  · refine hI_il (k := 0) rfl e0 rfl ?_ -- 6
    refine hM_bp (n := 57) rfl (by decide) rfl (fun x3 q3 => ?_) -- 7
    refine hM_cgt (off := 7) (t := 16) rfl lq0 q3 (by decide) rfl (fun c9 => ?_) (fun c9 => ?_) -- 9
    · refine hM_ic (n := 0) rfl (by decide) rfl (fun x4 q4 => ?_) -- 16
      refine hM_rb rfl rfl q4 (by omega) (by omega) ?_ -- 17
      exact g1 x4 q4 c3 c9
    · refine hM_ic (n := 1) rfl (by decide) rfl (fun x5 q5 => ?_) -- 12
      refine hI_go (pc' := 17) (off := 4) rfl (by decide) ?_ -- 13
      refine hM_rb rfl rfl q5 (by omega) (by omega) ?_ -- 17
      exact g2 x5 q5 c3 c9
theorem c_isl {c : Int} {xc : Int32} (hc : xc.toInt = c) (g : ∀ z : Int32, (z.toInt = 1 ∧ rd_al c = true) ∨ (z.toInt = 0 ∧ rd_al c = false) → Q (some (.int z)) h) : HJ 17 0 (lv_args 0 [.int xc]) [] h Q :=
  s_il rfl hc (fun x q c1 => g x (Or.inr ⟨q, rd_alF.mpr (Or.inl c1)⟩)) (fun x q _ c2 => g x (Or.inr ⟨q, rd_alF.mpr (Or.inr c2)⟩)) (fun x q c1 c2 => g x (Or.inl ⟨q, rd_alT.mpr ⟨c1, c2⟩⟩))
theorem c_isd {c : Int} {xc : Int32} (hc : xc.toInt = c) (g : ∀ z : Int32, (z.toInt = 1 ∧ rd_dg c = true) ∨ (z.toInt = 0 ∧ rd_dg c = false) → Q (some (.int z)) h) : HJ 32 0 (lv_args 0 [.int xc]) [] h Q :=
  s_id rfl hc (fun x q c1 => g x (Or.inr ⟨q, rd_dgF.mpr (Or.inl c1)⟩)) (fun x q _ c2 => g x (Or.inr ⟨q, rd_dgF.mpr (Or.inr c2)⟩)) (fun x q c1 c2 => g x (Or.inl ⟨q, rd_dgT.mpr ⟨c1, c2⟩⟩))
theorem s_nt0 (M : MX 106 W ρ m A h0 h F V G) (e0 : m_lk lv 0 = some (.ref m)) (hw : d_sub [(106, 2)] W = true)
    (g0 : ∀ h2 : MH, ∀ F2 : Nat → Int, F2 = m_u F 2 (F 3) → MX 106 W ρ m A h0 h2 F2 V G → 0 ≤ F 3 → F 3 ≤ 600 → HJ 16 8 lv [] h2 Q)
    : HJ 16 0 lv [] h Q := by
  refine hI_al (k := 0) rfl e0 rfl ?_ -- 0
  refine hI_al (k := 0) rfl e0 rfl ?_ -- 1
  refine hM_gi M (by decide) rfl rfl rfl (k := 3) (c := 4) (lo := 0) (hi := 600) rfl rfl rfl rfl rfl (fun x1 q1 a1 b1 => ?_) -- 2
  refine hM_pi M (by decide) ok_106 rfl rfl (k := 2) (c := 4) (lo := 0) (hi := 600) rfl rfl ⟨by decide, by decide +kernel, rfl⟩ rfl (d_subm hw (by decide +kernel)) q1 (by omega) (by omega) rfl (fun h2 F2 f2 M2 => ?_) -- 5
  exact g0 h2 F2 f2 M2 a1 b1
theorem s_nt8 (M : MX 106 W ρ m A h0 h F V G) (e0 : m_lk lv 0 = some (.ref m)) (hw : d_sub [(106, 2)] W = true)
    (g0 : 0 ≤ F 2 → F 2 ≤ 600 → 0 ≤ F 1 → F 1 ≤ 600 → F 2 ≥ F 1 → HJ 16 60 lv [] h Q)
    (g1 : ∀ h9 : MH, ∀ F9 : Nat → Int, F9 = m_u F 2 ((F 2) + 1) → MX 106 W ρ m A h0 h9 F9 V G → 0 ≤ F 2 → F 2 ≤ 600 → 0 ≤ F 1 → F 1 ≤ 600 → F 2 < F 1 → (-128) ≤ V 0 (F 2).toNat → V 0 (F 2).toNat ≤ 127 → V 0 (F 2).toNat = 10 → HJ 16 8 lv [] h9 Q)
    (g2 : 0 ≤ F 2 → F 2 ≤ 600 → 0 ≤ F 1 → F 1 ≤ 600 → F 2 < F 1 → (-128) ≤ V 0 (F 2).toNat → V 0 (F 2).toNat ≤ 127 → V 0 (F 2).toNat ≠ 10 → V 0 (F 2).toNat ≠ 32 → HJ 16 60 lv [] h Q)
    (g3 : ∀ h16 : MH, ∀ F16 : Nat → Int, F16 = m_u F 2 ((F 2) + 1) → MX 106 W ρ m A h0 h16 F16 V G → 0 ≤ F 2 → F 2 ≤ 600 → 0 ≤ F 1 → F 1 ≤ 600 → F 2 < F 1 → (-128) ≤ V 0 (F 2).toNat → V 0 (F 2).toNat ≤ 127 → V 0 (F 2).toNat ≠ 10 → V 0 (F 2).toNat = 32 → HJ 16 8 lv [] h16 Q)
    : HJ 16 8 lv [] h Q := by
  refine hI_al (k := 0) rfl e0 rfl ?_ -- 8
  refine hM_gi M (by decide) rfl rfl rfl (k := 2) (c := 4) (lo := 0) (hi := 600) rfl rfl rfl rfl rfl (fun x1 q1 a1 b1 => ?_) -- 9
  refine hI_al (k := 0) rfl e0 rfl ?_ -- 12
  refine hM_gi M (by decide) rfl rfl rfl (k := 1) (c := 4) (lo := 0) (hi := 600) rfl rfl rfl rfl rfl (fun x2 q2 a2 b2 => ?_) -- 13
  refine hM_cge (off := 44) (t := 60) rfl q1 q2 (by decide) rfl (fun c16 => ?_) (fun c16 => ?_) -- 16
  · exact g0 a1 b1 a2 b2 c16
  · refine hI_al (k := 0) rfl e0 rfl ?_ -- 19
    refine hM_ga M (by decide) rfl rfl (k := 0) (c := 4) rfl rfl rfl (by decide +kernel) rfl ?_ -- 20
    refine hI_al (k := 0) rfl e0 rfl ?_ -- 23
    refine hM_gi M (by decide) rfl rfl rfl (k := 2) (c := 4) (lo := 0) (hi := 600) rfl rfl rfl rfl rfl (fun x3 q3 a3 b3 => ?_) -- 24
    refine hM_ba M (by decide) (K := 0) (R2 := 13) (L := 600) (H := 600) (lo := (-128)) (hi := 127) rfl (by decide) rfl rfl (Or.inl rfl) (fun _ => rfl) rfl q3 (by omega) (by omega) rfl (fun x4 q4 a4 b4 => ?_) -- 27
    refine hM_bp (n := 10) rfl (by decide) rfl (fun x5 q5 => ?_) -- 28
    refine hM_ceq (off := 17) (t := 47) rfl q4 q5 (by decide) rfl (fun c30 => ?_) (fun c30 => ?_) -- 30
    · refine hI_al (k := 0) rfl e0 rfl ?_ -- 47
      refine hI_dup rfl rfl rfl ?_ -- 48
      refine hM_gi M (by decide) rfl rfl rfl (k := 2) (c := 4) (lo := 0) (hi := 600) rfl rfl rfl rfl rfl (fun x6 q6 a6 b6 => ?_) -- 49
      refine hM_ic (n := 1) rfl (by decide) rfl (fun x7 q7 => ?_) -- 52
      refine hM_add rfl q6 q7 (by omega) (by omega) rfl (fun x8 q8 => ?_) -- 53
      refine hM_pi M (by decide) ok_106 rfl rfl (k := 2) (c := 4) (lo := 0) (hi := 600) rfl rfl ⟨by decide, by decide +kernel, rfl⟩ rfl (d_subm hw (by decide +kernel)) q8 (by omega) (by omega) rfl (fun h9 F9 f9 M9 => ?_) -- 54
      refine hI_go (pc' := 8) (off := (-49)) rfl (by decide) ?_ -- 57
      exact g1 h9 F9 f9 M9 a1 b1 a2 b2 c16 a4 b4 c30
    · refine hI_al (k := 0) rfl e0 rfl ?_ -- 33
      refine hM_ga M (by decide) rfl rfl (k := 0) (c := 4) rfl rfl rfl (by decide +kernel) rfl ?_ -- 34
      refine hI_al (k := 0) rfl e0 rfl ?_ -- 37
      refine hM_gi M (by decide) rfl rfl rfl (k := 2) (c := 4) (lo := 0) (hi := 600) rfl rfl rfl rfl rfl (fun x10 q10 a10 b10 => ?_) -- 38
      refine hM_ba M (by decide) (K := 0) (R2 := 13) (L := 600) (H := 600) (lo := (-128)) (hi := 127) rfl (by decide) rfl rfl (Or.inl rfl) (fun _ => rfl) rfl q10 (by omega) (by omega) rfl (fun x11 q11 a11 b11 => ?_) -- 41
      refine hM_bp (n := 32) rfl (by decide) rfl (fun x12 q12 => ?_) -- 42
      refine hM_cne (off := 16) (t := 60) rfl q11 q12 (by decide) rfl (fun c44 => ?_) (fun c44 => ?_) -- 44
      · exact g2 a1 b1 a2 b2 c16 a4 b4 c30 c44
      · refine hI_al (k := 0) rfl e0 rfl ?_ -- 47
        refine hI_dup rfl rfl rfl ?_ -- 48
        refine hM_gi M (by decide) rfl rfl rfl (k := 2) (c := 4) (lo := 0) (hi := 600) rfl rfl rfl rfl rfl (fun x13 q13 a13 b13 => ?_) -- 49
        refine hM_ic (n := 1) rfl (by decide) rfl (fun x14 q14 => ?_) -- 52
        refine hM_add rfl q13 q14 (by omega) (by omega) rfl (fun x15 q15 => ?_) -- 53
        refine hM_pi M (by decide) ok_106 rfl rfl (k := 2) (c := 4) (lo := 0) (hi := 600) rfl rfl ⟨by decide, by decide +kernel, rfl⟩ rfl (d_subm hw (by decide +kernel)) q15 (by omega) (by omega) rfl (fun h16 F16 f16 M16 => ?_) -- 54
        refine hI_go (pc' := 8) (off := (-49)) rfl (by decide) ?_ -- 57
        exact g3 h16 F16 f16 M16 a1 b1 a2 b2 c16 a4 b4 c30 c44
theorem s_nt60 (M : MX 106 W ρ m A h0 h F V G) (e0 : m_lk lv 0 = some (.ref m)) (hw : d_sub [(106, 3), (106, 5), (106, 4)] W = true)
    (g0 : ∀ h2 : MH, ∀ F2 : Nat → Int, F2 = m_u F 3 (F 2) → ∀ h4 : MH, ∀ F4 : Nat → Int, F4 = m_u F2 5 ((-1)) → ∀ x8 : Int32, x8.toInt = V 0 (F 2).toNat → MX 106 W ρ m A h0 h4 F4 V G → 0 ≤ F 2 → F 2 ≤ 600 → 0 ≤ F 1 → F 1 ≤ 600 → F 2 < F 1 → (-128) ≤ V 0 (F 2).toNat → V 0 (F 2).toNat ≤ 127 → HJ 17 0 (lv_args 0 [.int x8]) [] h4 (fun v h' => HJ 16 104 lv (v.toList ++ []) h' Q))
    (g1 : ∀ h2 : MH, ∀ F2 : Nat → Int, F2 = m_u F 3 (F 2) → ∀ h4 : MH, ∀ F4 : Nat → Int, F4 = m_u F2 5 ((-1)) → ∀ h10 : MH, ∀ F10 : Nat → Int, F10 = m_u F4 4 (0) → MX 106 W ρ m A h0 h10 F10 V G → 0 ≤ F 2 → F 2 ≤ 600 → 0 ≤ F 1 → F 1 ≤ 600 → F 2 ≥ F 1 → Q none h10)
    : HJ 16 60 lv [] h Q := by
  refine hI_al (k := 0) rfl e0 rfl ?_ -- 60
  refine hI_al (k := 0) rfl e0 rfl ?_ -- 61
  refine hM_gi M (by decide) rfl rfl rfl (k := 2) (c := 4) (lo := 0) (hi := 600) rfl rfl rfl rfl rfl (fun x1 q1 a1 b1 => ?_) -- 62
  refine hM_pi M (by decide) ok_106 rfl rfl (k := 3) (c := 4) (lo := 0) (hi := 600) rfl rfl ⟨by decide, by decide +kernel, rfl⟩ rfl (d_subm hw (by decide +kernel)) q1 (by omega) (by omega) rfl (fun h2 F2 f2 M2 => ?_) -- 65
  refine hI_al (k := 0) rfl e0 rfl ?_ -- 68
  refine hM_ic (n := (-1)) rfl (by decide) rfl (fun x3 q3 => ?_) -- 69
  refine hM_pi M2 (by decide) ok_106 rfl rfl (k := 5) (c := 4) (lo := (-2147483648)) (hi := 2147483647) rfl rfl ⟨by decide, by decide +kernel, rfl⟩ rfl (d_subm hw (by decide +kernel)) q3 (by omega) (by omega) rfl (fun h4 F4 f4 M4 => ?_) -- 70
  refine hI_al (k := 0) rfl e0 rfl ?_ -- 73
  refine hM_gi M4 (by decide) rfl rfl rfl (k := 2) (c := 4) (lo := 0) (hi := 600) rfl rfl rfl rfl rfl (fun x5 q5 a5 b5 => ?_) -- 74
  have q5 : x5.toInt = F 2 := by rw [q5, f4, f2]; rfl
  have a5 := a5
  rw [f4, f2] at a5 b5
  change 0 ≤ F 2 at a5
  change F 2 ≤ 600 at b5 -- 74
  refine hI_al (k := 0) rfl e0 rfl ?_ -- 77
  refine hM_gi M4 (by decide) rfl rfl rfl (k := 1) (c := 4) (lo := 0) (hi := 600) rfl rfl rfl rfl rfl (fun x6 q6 a6 b6 => ?_) -- 78
  have q6 : x6.toInt = F 1 := by rw [q6, f4, f2]; rfl
  have a6 := a6
  rw [f4, f2] at a6 b6
  change 0 ≤ F 1 at a6
  change F 1 ≤ 600 at b6 -- 78
  refine hM_clt (off := 11) (t := 92) rfl q5 q6 (by decide) rfl (fun c81 => ?_) (fun c81 => ?_) -- 81
  · refine hI_al (k := 0) rfl e0 rfl ?_ -- 92
    refine hM_ga M4 (by decide) rfl rfl (k := 0) (c := 4) rfl rfl rfl (by decide +kernel) rfl ?_ -- 93
    refine hI_al (k := 0) rfl e0 rfl ?_ -- 96
    refine hM_gi M4 (by decide) rfl rfl rfl (k := 2) (c := 4) (lo := 0) (hi := 600) rfl rfl rfl rfl rfl (fun x7 q7 a7 b7 => ?_) -- 97
    have q7 : x7.toInt = F 2 := by rw [q7, f4, f2]; rfl
    have a7 := a7
    rw [f4, f2] at a7 b7
    change 0 ≤ F 2 at a7
    change F 2 ≤ 600 at b7 -- 97
    refine hM_ba M4 (by decide) (K := 0) (R2 := 13) (L := 600) (H := 600) (lo := (-128)) (hi := 127) rfl (by decide) rfl rfl (Or.inl rfl) (fun _ => rfl) rfl q7 (by omega) (by omega) rfl (fun x8 q8 a8 b8 => ?_) -- 100
    refine hM_is0 (as := [.int x8]) (r := []) rfl rfl (by decide +kernel) rfl rfl rfl rfl rfl ?_ -- 101
    exact g0 h2 F2 f2 h4 F4 f4 x8 q8 M4 a1 b1 a6 b6 c81 a8 b8
  · refine hI_al (k := 0) rfl e0 rfl ?_ -- 84
    refine hM_ic (n := 0) rfl (by decide) rfl (fun x9 q9 => ?_) -- 85
    refine hM_pi M4 (by decide) ok_106 rfl rfl (k := 4) (c := 4) (lo := (-2147483648)) (hi := 2147483647) rfl rfl ⟨by decide, by decide +kernel, rfl⟩ rfl (d_subm hw (by decide +kernel)) q9 (by omega) (by omega) rfl (fun h10 F10 f10 M10 => ?_) -- 86
    refine hI_go (pc' := 169) (off := 80) rfl (by decide) ?_ -- 89
    refine hI_rv rfl rfl ?_
    exact g1 h2 F2 f2 h4 F4 f4 h10 F10 f10 M10 a1 b1 a6 b6 c81
theorem s_nt104 {z : Int} (M : MX 106 W ρ m A h0 h F V G) (e0 : m_lk lv 0 = some (.ref m)) {sx0 : Int32} (sq0 : sx0.toInt = z) (i1 : F 2 < F 1) (n6 : F 1 ≤ 600)
    (g0 : ∀ x2 : Int32, x2.toInt = V 0 (F 2).toNat → z = 0 → 0 ≤ F 2 → F 2 ≤ 600 → (-128) ≤ V 0 (F 2).toNat → V 0 (F 2).toNat ≤ 127 → HJ 32 0 (lv_args 0 [.int x2]) [] h (fun v h' => HJ 16 126 lv (v.toList ++ []) h' Q))
    (g1 : z ≠ 0 → HJ 18 0 (lv_args 0 [.ref m]) [] h (fun v h' => HJ 16 111 lv (v.toList ++ []) h' Q))
    : HJ 16 104 lv [.int sx0] h Q := by
  refine hM_zeq (off := 10) (t := 114) rfl sq0 (by decide) rfl (fun c104 => ?_) (fun c104 => ?_) -- 104
  · refine hI_al (k := 0) rfl e0 rfl ?_ -- 114
    refine hM_ga M (by decide) rfl rfl (k := 0) (c := 4) rfl rfl rfl (by decide +kernel) rfl ?_ -- 115
    refine hI_al (k := 0) rfl e0 rfl ?_ -- 118
    refine hM_gi M (by decide) rfl rfl rfl (k := 2) (c := 4) (lo := 0) (hi := 600) rfl rfl rfl rfl rfl (fun x1 q1 a1 b1 => ?_) -- 119
    refine hM_ba M (by decide) (K := 0) (R2 := 13) (L := 600) (H := 600) (lo := (-128)) (hi := 127) rfl (by decide) rfl rfl (Or.inl rfl) (fun _ => rfl) rfl q1 (by omega) (by omega) rfl (fun x2 q2 a2 b2 => ?_) -- 122
    refine hM_is0 (as := [.int x2]) (r := []) rfl rfl (by decide +kernel) rfl rfl rfl rfl rfl ?_ -- 123
    exact g0 x2 q2 c104 a1 b1 a2 b2
  · refine hI_al (k := 0) rfl e0 rfl ?_ -- 107
    refine hM_iv M (by decide) rfl rfl (by decide) (as := []) (r := []) rfl rfl (by decide +kernel) rfl (by decide +kernel) rfl rfl rfl rfl rfl ?_ -- 108
    exact g1 c104
theorem s_nt111   
    (g0 : Q none h)
    : HJ 16 111 lv [] h Q := by
  refine hI_go (pc' := 169) (off := 58) rfl (by decide) ?_ -- 111
  refine hI_rv rfl rfl ?_
  exact g0 
theorem s_nt126 {z : Int} (M : MX 106 W ρ m A h0 h F V G) (e0 : m_lk lv 0 = some (.ref m)) {sx0 : Int32} (sq0 : sx0.toInt = z) (i1 : F 2 < F 1) (n6 : F 1 ≤ 600)(hw : d_sub [(106, 3), (106, 4)] W = true)
    (g0 : ∀ h4 : MH, ∀ F4 : Nat → Int, F4 = m_u F 3 ((F 2) + 1) → ∀ h9 : MH, ∀ F9 : Nat → Int, F9 = m_u F4 4 (4) → MX 106 W ρ m A h0 h9 F9 V G → z = 0 → 0 ≤ F 2 → F 2 ≤ 600 → (-128) ≤ V 0 (F 2).toNat → V 0 (F 2).toNat ≤ 127 → V 0 (F 2).toNat ≠ 59 → Q none h9)
    (g1 : ∀ h4 : MH, ∀ F4 : Nat → Int, F4 = m_u F 3 ((F 2) + 1) → ∀ h11 : MH, ∀ F11 : Nat → Int, F11 = m_u F4 4 (3) → MX 106 W ρ m A h0 h11 F11 V G → z = 0 → 0 ≤ F 2 → F 2 ≤ 600 → (-128) ≤ V 0 (F 2).toNat → V 0 (F 2).toNat ≤ 127 → V 0 (F 2).toNat = 59 → Q none h11)
    (g2 : z ≠ 0 → HJ 33 0 (lv_args 0 [.ref m]) [] h (fun v h' => HJ 16 133 lv (v.toList ++ []) h' Q))
    : HJ 16 126 lv [.int sx0] h Q := by
  refine hM_zeq (off := 10) (t := 136) rfl sq0 (by decide) rfl (fun c126 => ?_) (fun c126 => ?_) -- 126
  · refine hI_al (k := 0) rfl e0 rfl ?_ -- 136
    refine hI_al (k := 0) rfl e0 rfl ?_ -- 137
    refine hM_gi M (by decide) rfl rfl rfl (k := 2) (c := 4) (lo := 0) (hi := 600) rfl rfl rfl rfl rfl (fun x1 q1 a1 b1 => ?_) -- 138
    refine hM_ic (n := 1) rfl (by decide) rfl (fun x2 q2 => ?_) -- 141
    refine hM_add rfl q1 q2 (by omega) (by omega) rfl (fun x3 q3 => ?_) -- 142
    refine hM_pi M (by decide) ok_106 rfl rfl (k := 3) (c := 4) (lo := 0) (hi := 600) rfl rfl ⟨by decide, by decide +kernel, rfl⟩ rfl (d_subm hw (by decide +kernel)) q3 (by omega) (by omega) rfl (fun h4 F4 f4 M4 => ?_) -- 143
    refine hI_al (k := 0) rfl e0 rfl ?_ -- 146
    refine hI_al (k := 0) rfl e0 rfl ?_ -- 147
    refine hM_ga M4 (by decide) rfl rfl (k := 0) (c := 4) rfl rfl rfl (by decide +kernel) rfl ?_ -- 148
    refine hI_al (k := 0) rfl e0 rfl ?_ -- 151
    refine hM_gi M4 (by decide) rfl rfl rfl (k := 2) (c := 4) (lo := 0) (hi := 600) rfl rfl rfl rfl rfl (fun x5 q5 a5 b5 => ?_) -- 152
    have q5 : x5.toInt = F 2 := by rw [q5, f4]; rfl
    have a5 := a5
    rw [f4] at a5 b5
    change 0 ≤ F 2 at a5
    change F 2 ≤ 600 at b5 -- 152
    refine hM_ba M4 (by decide) (K := 0) (R2 := 13) (L := 600) (H := 600) (lo := (-128)) (hi := 127) rfl (by decide) rfl rfl (Or.inl rfl) (fun _ => rfl) rfl q5 (by omega) (by omega) rfl (fun x6 q6 a6 b6 => ?_) -- 155
    refine hM_bp (n := 59) rfl (by decide) rfl (fun x7 q7 => ?_) -- 156
    refine hM_cne (off := 7) (t := 165) rfl q6 q7 (by decide) rfl (fun c158 => ?_) (fun c158 => ?_) -- 158
    · refine hM_ic (n := 4) rfl (by decide) rfl (fun x8 q8 => ?_) -- 165
      refine hM_pi M4 (by decide) ok_106 rfl rfl (k := 4) (c := 4) (lo := (-2147483648)) (hi := 2147483647) rfl rfl ⟨by decide, by decide +kernel, rfl⟩ rfl (d_subm hw (by decide +kernel)) q8 (by omega) (by omega) rfl (fun h9 F9 f9 M9 => ?_) -- 166
      refine hI_rv rfl rfl ?_
      exact g0 h4 F4 f4 h9 F9 f9 M9 c126 a1 b1 a6 b6 c158
    · refine hM_ic (n := 3) rfl (by decide) rfl (fun x10 q10 => ?_) -- 161
      refine hI_go (pc' := 166) (off := 4) rfl (by decide) ?_ -- 162
      refine hM_pi M4 (by decide) ok_106 rfl rfl (k := 4) (c := 4) (lo := (-2147483648)) (hi := 2147483647) rfl rfl ⟨by decide, by decide +kernel, rfl⟩ rfl (d_subm hw (by decide +kernel)) q10 (by omega) (by omega) rfl (fun h11 F11 f11 M11 => ?_) -- 166
      refine hI_rv rfl rfl ?_
      exact g1 h4 F4 f4 h11 F11 f11 M11 c126 a1 b1 a6 b6 c158
  · refine hI_al (k := 0) rfl e0 rfl ?_ -- 129
    refine hM_iv M (by decide) rfl rfl (by decide) (as := []) (r := []) rfl rfl (by decide +kernel) rfl (by decide +kernel) rfl rfl rfl rfl rfl ?_ -- 130
    exact g2 c126
theorem s_nt133   
    (g0 : Q none h)
    : HJ 16 133 lv [] h Q := by
  refine hI_go (pc' := 169) (off := 36) rfl (by decide) ?_ -- 133
  refine hI_rv rfl rfl ?_
  exact g0 
theorem s_rw0 (M : MX 106 W ρ m A h0 h F V G) (e0 : m_lk lv 0 = some (.ref m)) 
    (g0 : 0 ≤ F 3 → F 3 ≤ 600 → 0 ≤ F 1 → F 1 ≤ 600 → F 3 ≥ F 1 → HJ 18 39 lv [] h Q)
    (g1 : ∀ x4 : Int32, x4.toInt = V 0 (F 3).toNat → 0 ≤ F 3 → F 3 ≤ 600 → 0 ≤ F 1 → F 1 ≤ 600 → F 3 < F 1 → (-128) ≤ V 0 (F 3).toNat → V 0 (F 3).toNat ≤ 127 → HJ 17 0 (lv_args 0 [.int x4]) [] h (fun v h' => HJ 18 23 lv (v.toList ++ []) h' Q))
    : HJ 18 0 lv [] h Q := by
  refine hI_al (k := 0) rfl e0 rfl ?_ -- 0
  refine hM_gi M (by decide) rfl rfl rfl (k := 3) (c := 4) (lo := 0) (hi := 600) rfl rfl rfl rfl rfl (fun x1 q1 a1 b1 => ?_) -- 1
  refine hI_al (k := 0) rfl e0 rfl ?_ -- 4
  refine hM_gi M (by decide) rfl rfl rfl (k := 1) (c := 4) (lo := 0) (hi := 600) rfl rfl rfl rfl rfl (fun x2 q2 a2 b2 => ?_) -- 5
  refine hM_cge (off := 31) (t := 39) rfl q1 q2 (by decide) rfl (fun c8 => ?_) (fun c8 => ?_) -- 8
  · exact g0 a1 b1 a2 b2 c8
  · refine hI_al (k := 0) rfl e0 rfl ?_ -- 11
    refine hM_ga M (by decide) rfl rfl (k := 0) (c := 4) rfl rfl rfl (by decide +kernel) rfl ?_ -- 12
    refine hI_al (k := 0) rfl e0 rfl ?_ -- 15
    refine hM_gi M (by decide) rfl rfl rfl (k := 3) (c := 4) (lo := 0) (hi := 600) rfl rfl rfl rfl rfl (fun x3 q3 a3 b3 => ?_) -- 16
    refine hM_ba M (by decide) (K := 0) (R2 := 13) (L := 600) (H := 600) (lo := (-128)) (hi := 127) rfl (by decide) rfl rfl (Or.inl rfl) (fun _ => rfl) rfl q3 (by omega) (by omega) rfl (fun x4 q4 a4 b4 => ?_) -- 19
    refine hM_is0 (as := [.int x4]) (r := []) rfl rfl (by decide +kernel) rfl rfl rfl rfl rfl ?_ -- 20
    exact g1 x4 q4 a1 b1 a2 b2 c8 a4 b4
theorem s_rw23 {z : Int} (M : MX 106 W ρ m A h0 h F V G) (e0 : m_lk lv 0 = some (.ref m)) {sx0 : Int32} (sq0 : sx0.toInt = z) (i1 : F 3 < F 1) (n6 : F 1 ≤ 600)(hw : d_sub [(106, 3)] W = true)
    (g0 : z = 0 → HJ 18 39 lv [] h Q)
    (g1 : ∀ h4 : MH, ∀ F4 : Nat → Int, F4 = m_u F 3 ((F 3) + 1) → MX 106 W ρ m A h0 h4 F4 V G → z ≠ 0 → 0 ≤ F 3 → F 3 ≤ 600 → HJ 18 0 lv [] h4 Q)
    : HJ 18 23 lv [.int sx0] h Q := by
  refine hM_zeq (off := 16) (t := 39) rfl sq0 (by decide) rfl (fun c23 => ?_) (fun c23 => ?_) -- 23
  · exact g0 c23
  · refine hI_al (k := 0) rfl e0 rfl ?_ -- 26
    refine hI_dup rfl rfl rfl ?_ -- 27
    refine hM_gi M (by decide) rfl rfl rfl (k := 3) (c := 4) (lo := 0) (hi := 600) rfl rfl rfl rfl rfl (fun x1 q1 a1 b1 => ?_) -- 28
    refine hM_ic (n := 1) rfl (by decide) rfl (fun x2 q2 => ?_) -- 31
    refine hM_add rfl q1 q2 (by omega) (by omega) rfl (fun x3 q3 => ?_) -- 32
    refine hM_pi M (by decide) ok_106 rfl rfl (k := 3) (c := 4) (lo := 0) (hi := 600) rfl rfl ⟨by decide, by decide +kernel, rfl⟩ rfl (d_subm hw (by decide +kernel)) q3 (by omega) (by omega) rfl (fun h4 F4 f4 M4 => ?_) -- 33
    refine hI_go (pc' := 0) (off := (-36)) rfl (by decide) ?_ -- 36
    exact g1 h4 F4 f4 M4 c23 a1 b1
theorem s_rw39 (M : MX 106 W ρ m A h0 h F V G) (e0 : m_lk lv 0 = some (.ref m)) (hw : d_sub [(106, 4)] W = true)
    (g0 : ∀ h2 : MH, ∀ F2 : Nat → Int, F2 = m_u F 4 (1) → ∀ x3 : Int32, x3.toInt = 0 → ∀ lv4 : List (Nat × Value), MX 106 W ρ m A h0 h2 F2 V G → m_lk lv4 0 = some (.ref m) → m_lk lv4 1 = some (.int x3) → HJ 18 46 lv4 [] h2 Q)
    : HJ 18 39 lv [] h Q := by
  refine hI_al (k := 0) rfl e0 rfl ?_ -- 39
  refine hM_ic (n := 1) rfl (by decide) rfl (fun x1 q1 => ?_) -- 40
  refine hM_pi M (by decide) ok_106 rfl rfl (k := 4) (c := 4) (lo := (-2147483648)) (hi := 2147483647) rfl rfl ⟨by decide, by decide +kernel, rfl⟩ rfl (d_subm hw (by decide +kernel)) q1 (by omega) (by omega) rfl (fun h2 F2 f2 M2 => ?_) -- 41
  refine hM_ic (n := 0) rfl (by decide) rfl (fun x3 q3 => ?_) -- 44
  refine hM_si (k := 1) rfl (by decide +kernel) rfl (fun lv4 e4_1 u4 => ?_) -- 45
  have e4_0 := u4 0 _ (by decide) (Or.inl rfl) e0
  exact g0 h2 F2 f2 x3 q3 lv4 M2 e4_0 e4_1
theorem s_rw46 {k : Int} (M : MX 106 W ρ m A h0 h F V G) (e0 : m_lk lv 0 = some (.ref m)) {lx1 : Int32} (e1 : m_lk lv 1 = some (.int lx1)) (lq1 : lx1.toInt = k) 
    (g0 : k ≥ 6 → Q none h)
    (g1 : k < 6 → HJ 19 0 (lv_args 0 [.int lx1]) [] h (fun v h' => HJ 18 57 lv (v.toList ++ [.ref m]) h' Q))
    : HJ 18 46 lv [] h Q := by
  refine hI_il (k := 1) rfl e1 rfl ?_ -- 46
  refine hM_bp (n := 6) rfl (by decide) rfl (fun x1 q1 => ?_) -- 47
  refine hM_cge (off := 25) (t := 74) rfl lq1 q1 (by decide) rfl (fun c49 => ?_) (fun c49 => ?_) -- 49
  · refine hI_rv rfl rfl ?_
    exact g0 c49
  · refine hI_al (k := 0) rfl e0 rfl ?_ -- 52
    refine hI_il (k := 1) rfl e1 rfl ?_ -- 53
    refine hM_is0 (as := [.int lx1]) (r := [.ref m]) rfl rfl (by decide +kernel) rfl rfl rfl rfl rfl ?_ -- 54
    exact g1 c49
theorem s_rw60 {k z : Int} (M : MX 106 W ρ m A h0 h F V G) (e0 : m_lk lv 0 = some (.ref m)) {lx1 : Int32} (e1 : m_lk lv 1 = some (.int lx1)) (lq1 : lx1.toInt = k) {sx0 : Int32} (sq0 : sx0.toInt = z) (k0 : 0 ≤ k) (k5 : k ≤ 5)(hw : d_sub [(106, 5)] W = true)
    (g0 : ∀ x1 : Int32, x1.toInt = k + 1 → ∀ lv1 : List (Nat × Value), m_lk lv1 0 = some (.ref m) → m_lk lv1 1 = some (.int x1) → z = 0 → HJ 18 46 lv1 [] h Q)
    (g1 : ∀ h2 : MH, ∀ F2 : Nat → Int, F2 = m_u F 5 (k) → ∀ x3 : Int32, x3.toInt = k + 1 → ∀ lv3 : List (Nat × Value), MX 106 W ρ m A h0 h2 F2 V G → m_lk lv3 0 = some (.ref m) → m_lk lv3 1 = some (.int x3) → z ≠ 0 → HJ 18 46 lv3 [] h2 Q)
    : HJ 18 60 lv [.int sx0] h Q := by
  refine hM_zeq (off := 8) (t := 68) rfl sq0 (by decide) rfl (fun c60 => ?_) (fun c60 => ?_) -- 60
  · refine hM_inc (k := 1) (z := 1) rfl e1 lq1 (by decide) (by omega) (by omega) (by decide +kernel) rfl (fun lv1 x1 q1 e1_1 u1 => ?_) -- 68
    have e1_0 := u1 0 _ (by decide) (Or.inl rfl) e0
    refine hI_go (pc' := 46) (off := (-25)) rfl (by decide) ?_ -- 71
    exact g0 x1 q1 lv1 e1_0 e1_1 c60
  · refine hI_al (k := 0) rfl e0 rfl ?_ -- 63
    refine hI_il (k := 1) rfl e1 rfl ?_ -- 64
    refine hM_pi M (by decide) ok_106 rfl rfl (k := 5) (c := 4) (lo := (-2147483648)) (hi := 2147483647) rfl rfl ⟨by decide, by decide +kernel, rfl⟩ rfl (d_subm hw (by decide +kernel)) lq1 (by omega) (by omega) rfl (fun h2 F2 f2 M2 => ?_) -- 65
    refine hM_inc (k := 1) (z := 1) rfl e1 lq1 (by decide) (by omega) (by omega) (by decide +kernel) rfl (fun lv3 x3 q3 e3_1 u3 => ?_) -- 68
    have e3_0 := u3 0 _ (by decide) (Or.inl rfl) e0
    refine hI_go (pc' := 46) (off := (-25)) rfl (by decide) ?_ -- 71
    exact g1 h2 F2 f2 x3 q3 lv3 M2 e3_0 e3_1 c60
theorem s_rn0 (M : MX 106 W ρ m A h0 h F V G) (e0 : m_lk lv 0 = some (.ref m)) (hw : d_sub [(106, 5)] W = true)
    (g0 : ∀ h2 : MH, ∀ F2 : Nat → Int, F2 = m_u F 5 (0) → MX 106 W ρ m A h0 h2 F2 V G → HJ 33 5 lv [] h2 Q)
    : HJ 33 0 lv [] h Q := by
  refine hI_al (k := 0) rfl e0 rfl ?_ -- 0
  refine hM_ic (n := 0) rfl (by decide) rfl (fun x1 q1 => ?_) -- 1
  refine hM_pi M (by decide) ok_106 rfl rfl (k := 5) (c := 4) (lo := (-2147483648)) (hi := 2147483647) rfl rfl ⟨by decide, by decide +kernel, rfl⟩ rfl (d_subm hw (by decide +kernel)) q1 (by omega) (by omega) rfl (fun h2 F2 f2 M2 => ?_) -- 2
  exact g0 h2 F2 f2 M2
theorem s_rn5 (M : MX 106 W ρ m A h0 h F V G) (e0 : m_lk lv 0 = some (.ref m)) 
    (g0 : 0 ≤ F 3 → F 3 ≤ 600 → 0 ≤ F 1 → F 1 ≤ 600 → F 3 ≥ F 1 → HJ 33 68 lv [] h Q)
    (g1 : ∀ x4 : Int32, x4.toInt = V 0 (F 3).toNat → 0 ≤ F 3 → F 3 ≤ 600 → 0 ≤ F 1 → F 1 ≤ 600 → F 3 < F 1 → (-128) ≤ V 0 (F 3).toNat → V 0 (F 3).toNat ≤ 127 → HJ 32 0 (lv_args 0 [.int x4]) [] h (fun v h' => HJ 33 28 lv (v.toList ++ []) h' Q))
    : HJ 33 5 lv [] h Q := by
  refine hI_al (k := 0) rfl e0 rfl ?_ -- 5
  refine hM_gi M (by decide) rfl rfl rfl (k := 3) (c := 4) (lo := 0) (hi := 600) rfl rfl rfl rfl rfl (fun x1 q1 a1 b1 => ?_) -- 6
  refine hI_al (k := 0) rfl e0 rfl ?_ -- 9
  refine hM_gi M (by decide) rfl rfl rfl (k := 1) (c := 4) (lo := 0) (hi := 600) rfl rfl rfl rfl rfl (fun x2 q2 a2 b2 => ?_) -- 10
  refine hM_cge (off := 55) (t := 68) rfl q1 q2 (by decide) rfl (fun c13 => ?_) (fun c13 => ?_) -- 13
  · exact g0 a1 b1 a2 b2 c13
  · refine hI_al (k := 0) rfl e0 rfl ?_ -- 16
    refine hM_ga M (by decide) rfl rfl (k := 0) (c := 4) rfl rfl rfl (by decide +kernel) rfl ?_ -- 17
    refine hI_al (k := 0) rfl e0 rfl ?_ -- 20
    refine hM_gi M (by decide) rfl rfl rfl (k := 3) (c := 4) (lo := 0) (hi := 600) rfl rfl rfl rfl rfl (fun x3 q3 a3 b3 => ?_) -- 21
    refine hM_ba M (by decide) (K := 0) (R2 := 13) (L := 600) (H := 600) (lo := (-128)) (hi := 127) rfl (by decide) rfl rfl (Or.inl rfl) (fun _ => rfl) rfl q3 (by omega) (by omega) rfl (fun x4 q4 a4 b4 => ?_) -- 24
    refine hM_is0 (as := [.int x4]) (r := []) rfl rfl (by decide +kernel) rfl rfl rfl rfl rfl ?_ -- 25
    exact g1 x4 q4 a1 b1 a2 b2 c13 a4 b4
theorem s_rn28 {z : Int} (M : MX 106 W ρ m A h0 h F V G) (e0 : m_lk lv 0 = some (.ref m)) {sx0 : Int32} (sq0 : sx0.toInt = z) (i1 : F 3 < F 1) (n6 : F 1 ≤ 600)(hw : d_sub [(106, 5), (106, 3)] W = true)
    (g0 : z = 0 → HJ 33 68 lv [] h Q)
    (g1 : ∀ z3 : Int, -2147483648 ≤ z3 → z3 ≤ 2147483647 → ∀ z6 : Int, -2147483648 ≤ z6 → z6 ≤ 2147483647 → ∀ z8 : Int, -2147483648 ≤ z8 → z8 ≤ 2147483647 → ∀ h9 : MH, ∀ F9 : Nat → Int, F9 = m_u F 5 (z8) → ∀ h13 : MH, ∀ F13 : Nat → Int, F13 = m_u F9 3 ((F 3) + 1) → MX 106 W ρ m A h0 h13 F13 V G → z ≠ 0 → (-2147483648) ≤ F 5 → F 5 ≤ 2147483647 → 0 ≤ F 3 → F 3 ≤ 600 → (-128) ≤ V 0 (F 3).toNat → V 0 (F 3).toNat ≤ 127 → HJ 33 5 lv [] h13 Q)
    : HJ 33 28 lv [.int sx0] h Q := by
  refine hM_zeq (off := 40) (t := 68) rfl sq0 (by decide) rfl (fun c28 => ?_) (fun c28 => ?_) -- 28
  · exact g0 c28
  · refine hI_al (k := 0) rfl e0 rfl ?_ -- 31
    refine hI_al (k := 0) rfl e0 rfl ?_ -- 32
    refine hM_gi M (by decide) rfl rfl rfl (k := 5) (c := 4) (lo := (-2147483648)) (hi := 2147483647) rfl rfl rfl rfl rfl (fun x1 q1 a1 b1 => ?_) -- 33
    refine hM_bp (n := 10) rfl (by decide) rfl (fun x2 q2 => ?_) -- 36
    refine hM_mulw rfl rfl (fun x3 z3 q3 a3 b3 => ?_) -- 38
    refine hI_al (k := 0) rfl e0 rfl ?_ -- 39
    refine hM_ga M (by decide) rfl rfl (k := 0) (c := 4) rfl rfl rfl (by decide +kernel) rfl ?_ -- 40
    refine hI_al (k := 0) rfl e0 rfl ?_ -- 43
    refine hM_gi M (by decide) rfl rfl rfl (k := 3) (c := 4) (lo := 0) (hi := 600) rfl rfl rfl rfl rfl (fun x4 q4 a4 b4 => ?_) -- 44
    refine hM_ba M (by decide) (K := 0) (R2 := 13) (L := 600) (H := 600) (lo := (-128)) (hi := 127) rfl (by decide) rfl rfl (Or.inl rfl) (fun _ => rfl) rfl q4 (by omega) (by omega) rfl (fun x5 q5 a5 b5 => ?_) -- 47
    refine hM_addw rfl rfl (fun x6 z6 q6 a6 b6 => ?_) -- 48
    refine hM_bp (n := 48) rfl (by decide) rfl (fun x7 q7 => ?_) -- 49
    refine hM_subw rfl rfl (fun x8 z8 q8 a8 b8 => ?_) -- 51
    refine hM_pi M (by decide) ok_106 rfl rfl (k := 5) (c := 4) (lo := (-2147483648)) (hi := 2147483647) rfl rfl ⟨by decide, by decide +kernel, rfl⟩ rfl (d_subm hw (by decide +kernel)) q8 (by omega) (by omega) rfl (fun h9 F9 f9 M9 => ?_) -- 52
    refine hI_al (k := 0) rfl e0 rfl ?_ -- 55
    refine hI_dup rfl rfl rfl ?_ -- 56
    refine hM_gi M9 (by decide) rfl rfl rfl (k := 3) (c := 4) (lo := 0) (hi := 600) rfl rfl rfl rfl rfl (fun x10 q10 a10 b10 => ?_) -- 57
    have q10 : x10.toInt = F 3 := by rw [q10, f9]; rfl
    have a10 := a10
    rw [f9] at a10 b10
    change 0 ≤ F 3 at a10
    change F 3 ≤ 600 at b10 -- 57
    refine hM_ic (n := 1) rfl (by decide) rfl (fun x11 q11 => ?_) -- 60
    refine hM_add rfl q10 q11 (by omega) (by omega) rfl (fun x12 q12 => ?_) -- 61
    refine hM_pi M9 (by decide) ok_106 rfl rfl (k := 3) (c := 4) (lo := 0) (hi := 600) rfl rfl ⟨by decide, by decide +kernel, rfl⟩ rfl (d_subm hw (by decide +kernel)) q12 (by omega) (by omega) rfl (fun h13 F13 f13 M13 => ?_) -- 62
    refine hI_go (pc' := 5) (off := (-60)) rfl (by decide) ?_ -- 65
    exact g1 z3 a3 b3 z6 a6 b6 z8 a8 b8 h9 F9 f9 h13 F13 f13 M13 c28 a1 b1 a4 b4 a5 b5
theorem s_rn28x {z : Int} (M : MX 106 W ρ m A h0 h F V G) (e0 : m_lk lv 0 = some (.ref m)) {sx0 : Int32} (sq0 : sx0.toInt = z) (i1 : F 3 < F 1) (n6 : F 1 ≤ 600) (z1 : z ≠ 0) (v0 : 0 ≤ F 5) (v1 : F 5 ≤ 9) (c0 : 48 ≤ V 0 (F 3).toNat) (c1 : V 0 (F 3).toNat ≤ 57)(hw : d_sub [(106, 5), (106, 3)] W = true)
    (g0 : z = 0 → HJ 33 68 lv [] h Q)
    (g1 : ∀ h9 : MH, ∀ F9 : Nat → Int, F9 = m_u F 5 ((((F 5) * 10) + (V 0 (F 3).toNat)) - 48) → ∀ h13 : MH, ∀ F13 : Nat → Int, F13 = m_u F9 3 ((F 3) + 1) → MX 106 W ρ m A h0 h13 F13 V G → z ≠ 0 → (-2147483648) ≤ F 5 → F 5 ≤ 2147483647 → 0 ≤ F 3 → F 3 ≤ 600 → (-128) ≤ V 0 (F 3).toNat → V 0 (F 3).toNat ≤ 127 → HJ 33 5 lv [] h13 Q)
    : HJ 33 28 lv [.int sx0] h Q := by
  refine hM_zeq (off := 40) (t := 68) rfl sq0 (by decide) rfl (fun c28 => ?_) (fun c28 => ?_) -- 28
  · exact g0 c28
  · refine hI_al (k := 0) rfl e0 rfl ?_ -- 31
    refine hI_al (k := 0) rfl e0 rfl ?_ -- 32
    refine hM_gi M (by decide) rfl rfl rfl (k := 5) (c := 4) (lo := (-2147483648)) (hi := 2147483647) rfl rfl rfl rfl rfl (fun x1 q1 a1 b1 => ?_) -- 33
    refine hM_bp (n := 10) rfl (by decide) rfl (fun x2 q2 => ?_) -- 36
    refine hM_mul rfl q1 q2 (by omega) (by omega) rfl (fun x3 q3 => ?_) -- 38
    refine hI_al (k := 0) rfl e0 rfl ?_ -- 39
    refine hM_ga M (by decide) rfl rfl (k := 0) (c := 4) rfl rfl rfl (by decide +kernel) rfl ?_ -- 40
    refine hI_al (k := 0) rfl e0 rfl ?_ -- 43
    refine hM_gi M (by decide) rfl rfl rfl (k := 3) (c := 4) (lo := 0) (hi := 600) rfl rfl rfl rfl rfl (fun x4 q4 a4 b4 => ?_) -- 44
    refine hM_ba M (by decide) (K := 0) (R2 := 13) (L := 600) (H := 600) (lo := (-128)) (hi := 127) rfl (by decide) rfl rfl (Or.inl rfl) (fun _ => rfl) rfl q4 (by omega) (by omega) rfl (fun x5 q5 a5 b5 => ?_) -- 47
    refine hM_add rfl q3 q5 (by omega) (by omega) rfl (fun x6 q6 => ?_) -- 48
    refine hM_bp (n := 48) rfl (by decide) rfl (fun x7 q7 => ?_) -- 49
    refine hM_sub rfl q6 q7 (by omega) (by omega) rfl (fun x8 q8 => ?_) -- 51
    refine hM_pi M (by decide) ok_106 rfl rfl (k := 5) (c := 4) (lo := (-2147483648)) (hi := 2147483647) rfl rfl ⟨by decide, by decide +kernel, rfl⟩ rfl (d_subm hw (by decide +kernel)) q8 (by omega) (by omega) rfl (fun h9 F9 f9 M9 => ?_) -- 52
    refine hI_al (k := 0) rfl e0 rfl ?_ -- 55
    refine hI_dup rfl rfl rfl ?_ -- 56
    refine hM_gi M9 (by decide) rfl rfl rfl (k := 3) (c := 4) (lo := 0) (hi := 600) rfl rfl rfl rfl rfl (fun x10 q10 a10 b10 => ?_) -- 57
    have q10 : x10.toInt = F 3 := by rw [q10, f9]; rfl
    have a10 := a10
    rw [f9] at a10 b10
    change 0 ≤ F 3 at a10
    change F 3 ≤ 600 at b10 -- 57
    refine hM_ic (n := 1) rfl (by decide) rfl (fun x11 q11 => ?_) -- 60
    refine hM_add rfl q10 q11 (by omega) (by omega) rfl (fun x12 q12 => ?_) -- 61
    refine hM_pi M9 (by decide) ok_106 rfl rfl (k := 3) (c := 4) (lo := 0) (hi := 600) rfl rfl ⟨by decide, by decide +kernel, rfl⟩ rfl (d_subm hw (by decide +kernel)) q12 (by omega) (by omega) rfl (fun h13 F13 f13 M13 => ?_) -- 62
    refine hI_go (pc' := 5) (off := (-60)) rfl (by decide) ?_ -- 65
    exact g1 h9 F9 f9 h13 F13 f13 M13 c28 a1 b1 a4 b4 a5 b5
theorem s_rn68 (M : MX 106 W ρ m A h0 h F V G) (e0 : m_lk lv 0 = some (.ref m)) (hw : d_sub [(106, 4)] W = true)
    (g0 : ∀ h6 : MH, ∀ F6 : Nat → Int, F6 = m_u F 4 (4) → MX 106 W ρ m A h0 h6 F6 V G → 0 ≤ F 3 → F 3 ≤ 600 → 0 ≤ F 2 → F 2 ≤ 600 → (F 3) - (F 2) > 2 → Q none h6)
    (g1 : ∀ h8 : MH, ∀ F8 : Nat → Int, F8 = m_u F 4 (2) → MX 106 W ρ m A h0 h8 F8 V G → 0 ≤ F 3 → F 3 ≤ 600 → 0 ≤ F 2 → F 2 ≤ 600 → (F 3) - (F 2) ≤ 2 → Q none h8)
    : HJ 33 68 lv [] h Q := by
  refine hI_al (k := 0) rfl e0 rfl ?_ -- 68
  refine hI_al (k := 0) rfl e0 rfl ?_ -- 69
  refine hM_gi M (by decide) rfl rfl rfl (k := 3) (c := 4) (lo := 0) (hi := 600) rfl rfl rfl rfl rfl (fun x1 q1 a1 b1 => ?_) -- 70
  refine hI_al (k := 0) rfl e0 rfl ?_ -- 73
  refine hM_gi M (by decide) rfl rfl rfl (k := 2) (c := 4) (lo := 0) (hi := 600) rfl rfl rfl rfl rfl (fun x2 q2 a2 b2 => ?_) -- 74
  refine hM_sub rfl q1 q2 (by omega) (by omega) rfl (fun x3 q3 => ?_) -- 77
  refine hM_ic (n := 2) rfl (by decide) rfl (fun x4 q4 => ?_) -- 78
  refine hM_cgt (off := 7) (t := 86) rfl q3 q4 (by decide) rfl (fun c79 => ?_) (fun c79 => ?_) -- 79
  · refine hM_ic (n := 4) rfl (by decide) rfl (fun x5 q5 => ?_) -- 86
    refine hM_pi M (by decide) ok_106 rfl rfl (k := 4) (c := 4) (lo := (-2147483648)) (hi := 2147483647) rfl rfl ⟨by decide, by decide +kernel, rfl⟩ rfl (d_subm hw (by decide +kernel)) q5 (by omega) (by omega) rfl (fun h6 F6 f6 M6 => ?_) -- 87
    refine hI_rv rfl rfl ?_
    exact g0 h6 F6 f6 M6 a1 b1 a2 b2 c79
  · refine hM_ic (n := 2) rfl (by decide) rfl (fun x7 q7 => ?_) -- 82
    refine hI_go (pc' := 87) (off := 4) rfl (by decide) ?_ -- 83
    refine hM_pi M (by decide) ok_106 rfl rfl (k := 4) (c := 4) (lo := (-2147483648)) (hi := 2147483647) rfl rfl ⟨by decide, by decide +kernel, rfl⟩ rfl (d_subm hw (by decide +kernel)) q7 (by omega) (by omega) rfl (fun h8 F8 f8 M8 => ?_) -- 87
    refine hI_rv rfl rfl ?_
    exact g1 h8 F8 f8 M8 a1 b1 a2 b2 c79
theorem s_gn (M : MX 106 W ρ m A h0 h F V G) (e0 : m_lk lv 0 = some (.ref m)) (hw : d_sub [(106, 7), (106, 8)] W = true)
    (g0 : ∀ h2 : MH, ∀ F2 : Nat → Int, F2 = m_u F 7 (1) → ∀ h4 : MH, ∀ F4 : Nat → Int, F4 = m_u F2 8 (F 2) → ∀ x5 : Int32, x5.toInt = 0 → MX 106 W ρ m A h0 h4 F4 V G → 0 ≤ F 2 → F 2 ≤ 600 → Q (some (.int x5)) h4)
    : HJ 34 0 lv [] h Q := by
  refine hI_al (k := 0) rfl e0 rfl ?_ -- 0
  refine hM_ic (n := 1) rfl (by decide) rfl (fun x1 q1 => ?_) -- 1
  refine hM_pi M (by decide) ok_106 rfl rfl (k := 7) (c := 4) (lo := (-2147483648)) (hi := 2147483647) rfl rfl ⟨by decide, by decide +kernel, rfl⟩ rfl (d_subm hw (by decide +kernel)) q1 (by omega) (by omega) rfl (fun h2 F2 f2 M2 => ?_) -- 2
  refine hI_al (k := 0) rfl e0 rfl ?_ -- 5
  refine hI_al (k := 0) rfl e0 rfl ?_ -- 6
  refine hM_gi M2 (by decide) rfl rfl rfl (k := 2) (c := 4) (lo := 0) (hi := 600) rfl rfl rfl rfl rfl (fun x3 q3 a3 b3 => ?_) -- 7
  have q3 : x3.toInt = F 2 := by rw [q3, f2]; rfl
  have a3 := a3
  rw [f2] at a3 b3
  change 0 ≤ F 2 at a3
  change F 2 ≤ 600 at b3 -- 7
  refine hM_pi M2 (by decide) ok_106 rfl rfl (k := 8) (c := 4) (lo := (-2147483648)) (hi := 2147483647) rfl rfl ⟨by decide, by decide +kernel, rfl⟩ rfl (d_subm hw (by decide +kernel)) q3 (by omega) (by omega) rfl (fun h4 F4 f4 M4 => ?_) -- 10
  refine hM_ic (n := 0) rfl (by decide) rfl (fun x5 q5 => ?_) -- 13
  refine hM_rb rfl rfl q5 (by omega) (by omega) ?_ -- 14
  exact g0 h2 F2 f2 h4 F4 f4 x5 q5 M4 a3 b3
theorem s_nto {w p : Int} (M : MX 106 W ρ m A h0 h F V G) (e0 : m_lk lv 0 = some (.ref m)) {lx1 : Int32} (e1 : m_lk lv 1 = some (.int lx1)) (lq1 : lx1.toInt = w) {lx2 : Int32} (e2 : m_lk lv 2 = some (.int lx2)) (lq2 : lx2.toInt = p) (wT : -2147483648 ≤ w ∧ w ≤ 2147483647) (pT : -2147483648 ≤ p ∧ p ≤ 2147483647)(hw : d_sub [(106, 7), (106, 8)] W = true)
    (g0 : (-2147483648) ≤ F 7 → F 7 ≤ 2147483647 → F 7 ≠ 0 → Q none h)
    (g1 : ∀ h2 : MH, ∀ F2 : Nat → Int, F2 = m_u F 7 (w) → ∀ h3 : MH, ∀ F3 : Nat → Int, F3 = m_u F2 8 (p) → MX 106 W ρ m A h0 h3 F3 V G → (-2147483648) ≤ F 7 → F 7 ≤ 2147483647 → F 7 = 0 → Q none h3)
    : HJ 35 0 lv [] h Q := by
  refine hI_al (k := 0) rfl e0 rfl ?_ -- 0
  refine hM_gi M (by decide) rfl rfl rfl (k := 7) (c := 4) (lo := (-2147483648)) (hi := 2147483647) rfl rfl rfl rfl rfl (fun x1 q1 a1 b1 => ?_) -- 1
  refine hM_zne (off := 13) (t := 17) rfl q1 (by decide) rfl (fun c4 => ?_) (fun c4 => ?_) -- 4
  · refine hI_rv rfl rfl ?_
    exact g0 a1 b1 c4
  · refine hI_al (k := 0) rfl e0 rfl ?_ -- 7
    refine hI_il (k := 1) rfl e1 rfl ?_ -- 8
    refine hM_pi M (by decide) ok_106 rfl rfl (k := 7) (c := 4) (lo := (-2147483648)) (hi := 2147483647) rfl rfl ⟨by decide, by decide +kernel, rfl⟩ rfl (d_subm hw (by decide +kernel)) lq1 (by omega) (by omega) rfl (fun h2 F2 f2 M2 => ?_) -- 9
    refine hI_al (k := 0) rfl e0 rfl ?_ -- 12
    refine hI_il (k := 2) rfl e2 rfl ?_ -- 13
    refine hM_pi M2 (by decide) ok_106 rfl rfl (k := 8) (c := 4) (lo := (-2147483648)) (hi := 2147483647) rfl rfl ⟨by decide, by decide +kernel, rfl⟩ rfl (d_subm hw (by decide +kernel)) lq2 (by omega) (by omega) rfl (fun h3 F3 f3 M3 => ?_) -- 14
    refine hI_rv rfl rfl ?_
    exact g1 h2 F2 f2 h3 F3 f3 M3 a1 b1 c4
-- blanks
theorem l_nt8 {n S : Nat} {F0 : Nat → Int} (hw : d_sub [(106, 2)] W = true) (e0 : m_lk lv 0 = some (.ref m)) (g : ∀ (h' : MH) (F' : Nat → Int), MX 106 W ρ m A h0 h' F' V G → F' 2 = (S : Int) → (∀ K, K ≠ 2 → F' K = F0 K) → HJ 16 60 lv [] h' Q) : ∀ (d p : Nat) (h : MH) (F : Nat → Int), p + d = n → MX 106 W ρ m A h0 h F V G → F 1 = (n : Int) → F 2 = (p : Int) → (∀ K, K ≠ 2 → F K = F0 K) → rd_go rd_ws (V 0) d p = S → HJ 16 8 lv [] h Q := by
  intro d
  induction d with
  | zero =>
    intro p h F hd M q1 q2 o eS
    have eS : p = S := eS
    exact s_nt8 M e0 hw (fun _ _ _ _ _ => g h F M (by omega) o) (fun _ _ _ _ _ _ _ _ c _ _ _ => by omega) (fun _ _ _ _ c _ _ _ _ => by omega) (fun _ _ _ _ _ _ _ _ c _ _ _ _ => by omega)
  | succ d ih =>
    intro p h F hd M q1 q2 o eS
    have hp : (F 2).toNat = p := by omega
    refine s_nt8 M e0 hw (fun _ _ _ _ c => by omega) (fun h9 F9 f9 M9 _ _ _ _ _ _ _ c => ?_) (fun _ _ _ _ _ _ _ c1 c2 => ?_) (fun h9 F9 f9 M9 _ _ _ _ _ _ _ _ c => ?_)
    · rw [hp] at c
      exact ih (p + 1) h9 F9 (by omega) M9 (by rw [f9, m_uN _ _ _ _ (by decide)]; exact q1) (by rw [f9, m_uE]; omega) (fun K hK => by rw [f9, m_uN _ _ _ _ hK]; exact o K hK) (by rw [← rd_goS (rd_wsT.mpr (Or.inl c))]; exact eS)
    · rw [hp] at c1 c2
      exact g h F M (by rw [← eS, rd_goE (rd_wsF.mpr ⟨c1, c2⟩)]; exact q2) o
    · rw [hp] at c
      exact ih (p + 1) h9 F9 (by omega) M9 (by rw [f9, m_uN _ _ _ _ (by decide)]; exact q1) (by rw [f9, m_uE]; omega) (fun K hK => by rw [f9, m_uN _ _ _ _ hK]; exact o K hK) (by rw [← rd_goS (rd_wsT.mpr (Or.inr c))]; exact eS)
-- a word's letters
theorem l_rw0 {n S : Nat} {F0 : Nat → Int} (hw : d_sub [(106, 3)] W = true) (e0 : m_lk lv 0 = some (.ref m)) (g : ∀ (h' : MH) (F' : Nat → Int), MX 106 W ρ m A h0 h' F' V G → F' 3 = (S : Int) → (∀ K, K ≠ 3 → F' K = F0 K) → HJ 18 39 lv [] h' Q) : ∀ (d p : Nat) (h : MH) (F : Nat → Int), p + d = n → MX 106 W ρ m A h0 h F V G → F 1 = (n : Int) → F 3 = (p : Int) → (∀ K, K ≠ 3 → F K = F0 K) → rd_go rd_al (V 0) d p = S → HJ 18 0 lv [] h Q := by
  intro d
  induction d with
  | zero =>
    intro p h F hd M q1 q2 o eS
    have eS : p = S := eS
    exact s_rw0 M e0 (fun _ _ _ _ _ => g h F M (by omega) o) (fun _ _ _ _ _ _ c _ _ => by omega)
  | succ d ih =>
    intro p h F hd M q1 q2 o eS
    have hp : (F 3).toNat = p := by omega
    refine s_rw0 M e0 (fun _ _ _ _ c => by omega) (fun x4 q4 _ _ _ b1 c _ _ => c_isl q4 (fun z hz => s_rw23 (z := z.toInt) M e0 rfl c b1 hw (fun c0 => ?_) (fun h4 F4 f4 M4 c0 _ _ => ?_)))
    · rw [hp] at hz
      exact g h F M (by rw [← eS, rd_goE (hz.resolve_left (fun y => by omega)).2]; exact q2) o
    · rw [hp] at hz
      exact ih (p + 1) h4 F4 (by omega) M4 (by rw [f4, m_uN _ _ _ _ (by decide)]; exact q1) (by rw [f4, m_uE]; omega) (fun K hK => by rw [f4, m_uN _ _ _ _ hK]; exact o K hK) (by rw [← rd_goS (hz.resolve_right (fun y => by omega)).2]; exact eS)
-- what is asked of the names
def tl_ok (W : List (Nat × Nat)) (ρ : Nat → Nat) (m : Nat) (A : Nat → Nat) (h0 : MH) (V : Nat → Nat → Int) (G : Nat → Nat → Int64) : Prop := ∀ (k s b : Nat) (h : MH) (F : Nat → Int) (xk : Int32) (lv : List (Nat × Value)) (Q : Option Value → MH → Prop), MX 106 W ρ m A h0 h F V G → k < 6 → xk.toInt = (k : Int) → F 2 = (s : Int) → F 3 = (b : Int) → s ≤ b → b ≤ 600 → (∀ z : Int32, (z.toInt = 1 ∧ rd_is (V 0) s b (rd_nm k)) ∨ (z.toInt = 0 ∧ ¬ rd_is (V 0) s b (rd_nm k)) → HJ 18 60 lv [.int z] h Q) → HJ 19 0 (lv_args 0 [.int xk]) [] h (fun v h' => HJ 18 57 lv (v.toList ++ [.ref m]) h' Q)
theorem l_rw46 {s b : Nat} {F0 : Nat → Int} (hw : d_sub [(106, 5)] W = true) (tl : tl_ok W ρ m A h0 V G) (sb : s ≤ b) (b6 : b ≤ 600) (f2 : F0 2 = (s : Int)) (f3 : F0 3 = (b : Int)) (g : ∀ (h' : MH) (F' : Nat → Int), MX 106 W ρ m A h0 h' F' V G → F' 5 = rd_kd (V 0) s b 6 → (∀ K, K ≠ 5 → F' K = F0 K) → Q none h') : ∀ (d k : Nat) (lv : List (Nat × Value)) (h : MH) (F : Nat → Int) (xk : Int32), k + d = 6 → MX 106 W ρ m A h0 h F V G → xk.toInt = (k : Int) → m_lk lv 0 = some (.ref m) → m_lk lv 1 = some (.int xk) → F 5 = rd_kd (V 0) s b k → (∀ K, K ≠ 5 → F K = F0 K) → HJ 18 46 lv [] h Q := by
  intro d
  induction d with
  | zero =>
    intro k lv h F xk hd M qk e0 e1 v o
    have : k = 6 := by omega
    subst this
    exact s_rw46 M e0 e1 qk (fun _ => g h F M v o) (fun c => by omega)
  | succ d ih =>
    intro k lv h F xk hd M qk e0 e1 v o
    refine s_rw46 M e0 e1 qk (fun c => by omega) (fun c => tl k s b h F xk lv Q M (by omega) qk (by rw [o 2 (by decide)]; exact f2) (by rw [o 3 (by decide)]; exact f3) sb b6 (fun z hz => s_rw60 (z := z.toInt) M e0 e1 qk rfl (by omega) (by omega) hw (fun x1 q1 lv1 d0 d1 c0 => ?_) (fun h2 F2 g2 x3 q3 lv3 M2 d0 d1 c0 => ?_)))
    · refine ih (k + 1) lv1 h F x1 (by omega) M (by omega) d0 d1 ?_ o
      rw [rd_kd, if_neg (show ¬ rd_ib (V 0) s b (rd_nm k) = true from (hz.resolve_left (fun y => by omega)).2)]
      exact v
    · refine ih (k + 1) lv3 h2 F2 x3 (by omega) M2 (by omega) d0 d1 ?_ (fun K hK => by rw [g2, m_uN _ _ _ _ hK]; exact o K hK)
      rw [g2, m_uE, rd_kd, if_pos (show rd_ib (V 0) s b (rd_nm k) = true from (hz.resolve_right (fun y => by omega)).2)]
-- a number's digits: exact for two
theorem l_rn5 {n S s : Nat} {F0 : Nat → Int} (hw : d_sub [(106, 5), (106, 3)] W = true) (e0 : m_lk lv 0 = some (.ref m)) (g : ∀ (h' : MH) (F' : Nat → Int), MX 106 W ρ m A h0 h' F' V G → F' 3 = (S : Int) → (s < S → S - s ≤ 2 → F' 5 = rd_nb (V 0) s S) → (∀ K, K ≠ 3 → K ≠ 5 → F' K = F0 K) → HJ 33 68 lv [] h' Q) : ∀ (d p : Nat) (h : MH) (F : Nat → Int), p + d = n → s ≤ p → MX 106 W ρ m A h0 h F V G → F 1 = (n : Int) → F 3 = (p : Int) → (p = s → F 5 = 0) → (s < p → p - s ≤ 2 → F 5 = rd_nb (V 0) s p) → (p = s + 1 → 0 ≤ F 5 ∧ F 5 ≤ 9) → (∀ K, K ≠ 3 → K ≠ 5 → F K = F0 K) → rd_go rd_dg (V 0) d p = S → HJ 33 5 lv [] h Q := by
  intro d
  induction d with
  | zero =>
    intro p h F hd hs M q1 q2 v0 v1 v2 o eS
    have eS : p = S := eS
    subst eS
    exact s_rn5 M e0 (fun _ _ _ _ _ => g h F M q2 v1 o) (fun _ _ _ _ _ _ c _ _ => by omega)
  | succ d ih =>
    intro p h F hd hs M q1 q2 v0 v1 v2 o eS
    have hp : (F 3).toNat = p := by omega
    refine s_rn5 M e0 (fun _ _ _ _ c => by omega) (fun x4 q4 _ _ _ b1 c _ _ => c_isd q4 (fun z hz => ?_))
    rw [hp] at hz
    rcases hz with ⟨qz, hz⟩ | ⟨qz, hz⟩
    · have hz2 := rd_dgT.mp hz
      have eS2 : rd_go rd_dg (V 0) d (p + 1) = S := by rw [← rd_goS hz]; exact eS
      by_cases e9 : p ≤ s + 1
      · have v9 : 0 ≤ F 5 ∧ F 5 ≤ 9 := by
          by_cases e : p = s
          · have := v0 e
            omega
          · exact v2 (by omega)
        refine s_rn28x (z := z.toInt) M e0 rfl c b1 (by omega) v9.1 v9.2 (by rw [hp]; exact hz2.1) (by rw [hp]; exact hz2.2) hw (fun c0 => by omega) (fun h9 F9 f9 h13 F13 f13 M13 _ _ _ _ _ _ _ => ?_)
        rw [hp] at f9
        have f5 : F13 5 = F 5 * 10 + V 0 p - 48 := by rw [f13, m_uN _ _ _ _ (by decide), f9, m_uE]
        refine ih (p + 1) h13 F13 (by omega) (by omega) M13 ?_ (by rw [f13, m_uE]; omega) (fun y => by omega) (fun _ y => ?_) (fun y => ?_) (fun K h3 h5 => by rw [f13, m_uN _ _ _ _ h3, f9, m_uN _ _ _ _ h5]; exact o K h3 h5) eS2
        · rw [f13, m_uN _ _ _ _ (by decide), f9, m_uN _ _ _ _ (by decide)]
          exact q1
        · rw [f5]
          unfold rd_nb
          by_cases e : p = s
          · rw [if_pos (by omega), v0 e, e]
            omega
          · have e1 : p = s + 1 := by omega
            have v := v1 (by omega) (by omega)
            unfold rd_nb at v
            rw [if_pos e1] at v
            rw [if_neg (by omega), v, e1]
            omega
        · rw [f5, v0 (by omega)]
          omega
      · refine s_rn28 (z := z.toInt) M e0 rfl c b1 hw (fun c0 => by omega) (fun z3 _ _ z6 _ _ z8 _ _ h9 F9 f9 h13 F13 f13 M13 _ _ _ _ _ _ _ => ?_)
        refine ih (p + 1) h13 F13 (by omega) (by omega) M13 ?_ (by rw [f13, m_uE]; omega) (fun y => by omega) (fun _ y => by omega) (fun y => by omega) (fun K h3 h5 => by rw [f13, m_uN _ _ _ _ h3, f9, m_uN _ _ _ _ h5]; exact o K h3 h5) eS2
        rw [f13, m_uN _ _ _ _ (by decide), f9, m_uN _ _ _ _ (by decide)]
        exact q1
    · refine s_rn28 (z := z.toInt) M e0 rfl c b1 hw (fun c0 => ?_) (fun z3 _ _ z6 _ _ z8 _ _ h9 F9 f9 h13 F13 f13 M13 c0 _ _ _ _ _ _ => by omega)
      have eS3 : p = S := by rw [← eS, rd_goE hz]
      subst eS3
      exact g h F M q2 v1 o
def w_rt : List (Nat × Nat) := [(106, 2), (106, 3), (106, 4), (106, 5)]
theorem c_rdw {n s : Nat} (M : MX 106 W ρ m A h0 h F V G) (hw : d_sub w_rt W = true) (tl : tl_ok W ρ m A h0 V G) (q1 : F 1 = (n : Int)) (q2 : F 2 = (s : Int)) (q3 : F 3 = (s : Int)) (sn : s ≤ n) (n6 : n ≤ 600) (q5 : F 5 = -1) (g : ∀ (h' : MH) (F' : Nat → Int), MX 106 W ρ m A h0 h' F' V G → F' 3 = ((rd_go rd_al (V 0) (n - s) s : Nat) : Int) → F' 4 = 1 → F' 5 = rd_kd (V 0) s (rd_go rd_al (V 0) (n - s) s) 6 → (∀ K, K ≠ 3 → K ≠ 4 → K ≠ 5 → F' K = F K) → Q none h') : HJ 18 0 (lv_args 0 [.ref m]) [] h Q := by
  have hb := rd_goB (f := rd_al) (T := V 0) (n - s) s
  refine l_rw0 (F0 := F) (d_subm hw (by decide +kernel)) rfl (fun h1 F1 M1 e3 o1 => s_rw39 M1 rfl (d_subm hw (by decide +kernel)) (fun h2 F2 f2 x3 q3' lv4 M2 d0 d1 => ?_)) (n - s) s h F (by omega) M q1 q3 (fun _ _ => rfl) rfl
  refine l_rw46 (s := s) (b := rd_go rd_al (V 0) (n - s) s) (F0 := F2) (d_subm hw (by decide +kernel)) tl hb.1 (by omega) ?_ ?_ (fun h3 F3 M3 v3 o3 => g h3 F3 M3 ?_ ?_ v3 (fun K a b c => ?_)) 6 0 lv4 h2 F2 x3 (by omega) M2 q3' d0 d1 ?_ (fun _ _ => rfl)
  · rw [f2, m_uN _ _ _ _ (by decide), o1 2 (by decide)]
    exact q2
  · rw [f2, m_uN _ _ _ _ (by decide)]
    exact e3
  · rw [o3 3 (by decide), f2, m_uN _ _ _ _ (by decide)]
    exact e3
  · rw [o3 4 (by decide), f2, m_uE]
  · rw [o3 K c, f2, m_uN _ _ _ _ b, o1 K a]
  · rw [f2, m_uN _ _ _ _ (by decide), o1 5 (by decide)]
    exact q5
theorem c_rdn {n s : Nat} (M : MX 106 W ρ m A h0 h F V G) (hw : d_sub w_rt W = true) (q1 : F 1 = (n : Int)) (q2 : F 2 = (s : Int)) (q3 : F 3 = (s : Int)) (sn : s < n) (hd : rd_dg (V 0 s) = true) (g : ∀ (h' : MH) (F' : Nat → Int), MX 106 W ρ m A h0 h' F' V G → F' 3 = ((rd_go rd_dg (V 0) (n - s) s : Nat) : Int) → F' 4 = (if rd_go rd_dg (V 0) (n - s) s - s ≤ 2 then 2 else 4) → (F' 4 = 2 → F' 5 = rd_nb (V 0) s (rd_go rd_dg (V 0) (n - s) s)) → (∀ K, K ≠ 3 → K ≠ 4 → K ≠ 5 → F' K = F K) → Q none h') : HJ 33 0 (lv_args 0 [.ref m]) [] h Q := by
  have hb := rd_goB (f := rd_dg) (T := V 0) (n - s) s
  have hs : s < rd_go rd_dg (V 0) (n - s) s := by
    have e : n - s = (n - s - 1) + 1 := by omega
    rw [e, rd_goS hd]
    have := (rd_goB (f := rd_dg) (T := V 0) (n - s - 1) (s + 1)).1
    omega
  refine s_rn0 M rfl (d_subm hw (by decide +kernel)) (fun h2 F2 f2 M2 => ?_)
  refine l_rn5 (n := n) (S := rd_go rd_dg (V 0) (n - s) s) (s := s) (F0 := F2) (d_subm hw (by decide +kernel)) rfl (fun h3 F3 M3 e3 v3 o3 => ?_) (n - s) s h2 F2 (by omega) (Nat.le_refl _) M2 (by rw [f2, m_uN _ _ _ _ (by decide)]; exact q1) (by rw [f2, m_uN _ _ _ _ (by decide)]; exact q3) (fun _ => by rw [f2, m_uE]) (fun y => absurd y (Nat.lt_irrefl _)) (fun y => by omega) (fun _ _ _ => rfl) rfl
  have e2 : F3 2 = (s : Int) := by
    rw [o3 2 (by decide) (by decide), f2, m_uN _ _ _ _ (by decide)]
    exact q2
  refine s_rn68 M3 rfl (d_subm hw (by decide +kernel)) (fun h6 F6 f6 M6 _ _ _ _ c => g h6 F6 M6 (by rw [f6, m_uN _ _ _ _ (by decide)]; exact e3) (by rw [f6, m_uE, if_neg (by omega)]) (fun y => by rw [f6, m_uE] at y; omega) (fun K a b c => by rw [f6, m_uN _ _ _ _ b, o3 K a c, f2, m_uN _ _ _ _ c])) (fun h6 F6 f6 M6 _ _ _ _ c => g h6 F6 M6 (by rw [f6, m_uN _ _ _ _ (by decide)]; exact e3) (by rw [f6, m_uE, if_pos (by omega)]) (fun _ => by rw [f6, m_uN _ _ _ _ (by decide)]; exact v3 hs (by omega)) (fun K a b c => by rw [f6, m_uN _ _ _ _ b, o3 K a c, f2, m_uN _ _ _ _ c]))
-- a token
theorem c_nt {n p : Nat} (M : MX 106 W ρ m A h0 h F V G) (hw : d_sub w_rt W = true) (tl : tl_ok W ρ m A h0 V G) (q1 : F 1 = (n : Int)) (q3 : F 3 = (p : Int)) (pn : p ≤ n) (g : ∀ (h' : MH) (F' : Nat → Int), MX 106 W ρ m A h0 h' F' V G → F' 2 = (rt_s (rd_tk (V 0) n p) : Int) → F' 3 = (rt_b (rd_tk (V 0) n p) : Int) → F' 4 = rt_t (rd_tk (V 0) n p) → (F' 4 = 1 ∨ F' 4 = 2 → F' 5 = rt_v (rd_tk (V 0) n p)) → (∀ K, K ≠ 2 → K ≠ 3 → K ≠ 4 → K ≠ 5 → F' K = F K) → Q none h') : HJ 16 0 (lv_args 0 [.ref m]) [] h Q := by
  have hb := rd_goB (f := rd_ws) (T := V 0) (n - p) p
  have n6 : n ≤ 600 := by
    have := (M.fi (by decide) (k := 1) (lo := 0) (hi := 600) rfl rfl rfl).2
    omega
  refine s_nt0 M rfl (d_subm hw (by decide +kernel)) (fun h2 F2 f2 M2 _ _ => l_nt8 (n := n) (S := rd_go rd_ws (V 0) (n - p) p) (F0 := F2) (d_subm hw (by decide +kernel)) rfl (fun h3 F3 M3 e2 o3 => ?_) (n - p) p h2 F2 (by omega) M2 (by rw [f2, m_uN _ _ _ _ (by decide)]; exact q1) (by rw [f2, m_uE]; exact q3) (fun _ _ => rfl) rfl)
  have e1 : F3 1 = (n : Int) := by
    rw [o3 1 (by decide), f2, m_uN _ _ _ _ (by decide)]
    exact q1
  have oo : ∀ K, K ≠ 2 → F3 K = F K := fun K hK => by rw [o3 K hK, f2, m_uN _ _ _ _ hK]
  generalize hs : rd_go rd_ws (V 0) (n - p) p = s at hb e2
  have hS : (F3 2).toNat = s := by omega
  refine s_nt60 M3 rfl (d_subm hw (by decide +kernel)) (fun ha Fa fa hb' Fb fb x8 q8 Mb _ _ _ _ c _ _ => ?_) (fun ha Fa fa hb' Fb fb hc Fc fc Mc _ _ _ _ c => ?_)
  · rw [hS] at q8
    have b2 : Fb 2 = (s : Int) := by rw [fb, m_uN _ _ _ _ (by decide), fa, m_uN _ _ _ _ (by decide)]; exact e2
    have b3 : Fb 3 = (s : Int) := by rw [fb, m_uN _ _ _ _ (by decide), fa, m_uE]; exact e2
    have b1 : Fb 1 = (n : Int) := by rw [fb, m_uN _ _ _ _ (by decide), fa, m_uN _ _ _ _ (by decide)]; exact e1
    have b5 : Fb 5 = -1 := by rw [fb, m_uE]
    have bo : ∀ K, K ≠ 2 → K ≠ 3 → K ≠ 5 → Fb K = F K := fun K h2 h3 h5 => by rw [fb, m_uN _ _ _ _ h5, fa, m_uN _ _ _ _ h3]; exact oo K h2
    have bS : (Fb 2).toNat = s := by omega
    refine c_isl q8 (fun z hz => s_nt104 (z := z.toInt) Mb rfl rfl (by omega) (by omega) (fun x2 q2 c0 _ _ _ _ => ?_) (fun c1 => ?_))
    · have ha := (hz.resolve_left (fun y => by omega)).2
      rw [bS] at q2
      refine c_isd q2 (fun y hy => s_nt126 (z := y.toInt) Mb rfl rfl (by omega) (by omega) (d_subm hw (by decide +kernel)) (fun h4 F4 f4 h9 F9 f9 M9 c0 _ _ _ _ c59 => ?_) (fun h4 F4 f4 h9 F9 f9 M9 c0 _ _ _ _ c59 => ?_) (fun c1 => ?_))
      · have hd := (hy.resolve_left (fun y => by omega)).2
        rw [bS] at c59
        rw [rd_tk3 hs (by omega) ha hd, if_neg c59] at g
        exact g h9 F9 M9 (by rw [f9, m_uN _ _ _ _ (by decide), f4, m_uN _ _ _ _ (by decide)]; exact b2) (by rw [f9, m_uN _ _ _ _ (by decide), f4, m_uE, b2]; show _ = ((s + 1 : Nat) : Int); omega) (by rw [f9, m_uE]; rfl) (fun y => by rw [f9, m_uE] at y; omega) (fun K k2 k3 k4 k5 => by rw [f9, m_uN _ _ _ _ k4, f4, m_uN _ _ _ _ k3]; exact bo K k2 k3 k5)
      · have hd := (hy.resolve_left (fun y => by omega)).2
        rw [bS] at c59
        rw [rd_tk3 hs (by omega) ha hd, if_pos c59] at g
        exact g h9 F9 M9 (by rw [f9, m_uN _ _ _ _ (by decide), f4, m_uN _ _ _ _ (by decide)]; exact b2) (by rw [f9, m_uN _ _ _ _ (by decide), f4, m_uE, b2]; show _ = ((s + 1 : Nat) : Int); omega) (by rw [f9, m_uE]; rfl) (fun y => by rw [f9, m_uE] at y; omega) (fun K k2 k3 k4 k5 => by rw [f9, m_uN _ _ _ _ k4, f4, m_uN _ _ _ _ k3]; exact bo K k2 k3 k5)
      · have hd := (hy.resolve_right (fun y => by omega)).2
        rw [rd_tk2 hs (by omega) ha hd] at g
        exact c_rdn Mb hw b1 b2 b3 (by omega) hd (fun h' F' M' g3 g4 g5 o => s_nt133 (g h' F' M' (by rw [o 2 (by decide) (by decide) (by decide)]; exact b2) g3 g4 (fun y => g5 (y.elim (fun y => by rw [g4] at y; split at y <;> omega) id)) (fun K k2 k3 k4 k5 => by rw [o K k3 k4 k5]; exact bo K k2 k3 k5)))
    · have ha := (hz.resolve_right (fun y => by omega)).2
      rw [rd_tk1 hs (by omega) ha] at g
      exact c_rdw Mb hw tl b1 b2 b3 (by omega) n6 b5 (fun h' F' M' g3 g4 g5 o => s_nt111 (g h' F' M' (by rw [o 2 (by decide) (by decide) (by decide)]; exact b2) g3 g4 (fun _ => g5) (fun K k2 k3 k4 k5 => by rw [o K k3 k4 k5]; exact bo K k2 k3 k5)))
  · have es : rd_tk (V 0) n p = (s, (s, (0, -1))) := by
      rw [← hs]
      exact rd_tk0 (by omega)
    rw [es] at g
    exact g hc Fc Mc (by rw [fc, m_uN _ _ _ _ (by decide), fb, m_uN _ _ _ _ (by decide), fa, m_uN _ _ _ _ (by decide)]; exact e2) (by rw [fc, m_uN _ _ _ _ (by decide), fb, m_uN _ _ _ _ (by decide), fa, m_uE]; exact e2) (by rw [fc, m_uE]; rfl) (fun y => by rw [fc, m_uE] at y; omega) (fun K k2 k3 k4 k5 => by rw [fc, m_uN _ _ _ _ k4, fb, m_uN _ _ _ _ k5, fa, m_uN _ _ _ _ k3]; exact oo K k2)
end
