-- A TREE IS WALKED: by hand (printed by wip/ck/hj.py)
-- by hand, steps whose answers are named
section
variable {i pc pc' : Nat} {lv : List (Nat × Value)} {st : List Value} {h : MH} {Q : Option Value → MH → Prop}
theorem si_f {h : MH} {a k b j : Nat} {x : Int32} (hn : b ≠ a) : h_i (h_si h a k x) b j = h_i h b j := by
  rw [s_siI, if_neg (fun e => hn e.1)]
theorem si_s {h : MH} {a k : Nat} {x : Int32} : h_i (h_si h a k x) a k = x := by
  rw [s_siI, if_pos ⟨rfl, rfl⟩]
theorem si_n {h : MH} {a k j : Nat} {x : Int32} (hn : j ≠ k) : h_i (h_si h a k x) a j = h_i h a j := by
  rw [s_siI, if_neg (fun e => hn e.2)]
theorem hG_i {idx nest c k o : Nat} {x : Int32} (a : m_at i pc = some (.getfield idx, 3)) (hf : m_fl i idx = some (nest, c, k)) (ht : (m_ty c k).1 = 0) (hk : (h_k h o).1 = c + 1) (ex : h_i h o k = x) (hp : pc + 3 = pc') (g : HJ i pc' lv (.int x :: st) h Q) : HJ i pc lv (.ref o :: st) h Q := by
  subst ex
  exact hI_gi a hf ht hk hp g
theorem hG_r {idx nest c k o r : Nat} (a : m_at i pc = some (.getfield idx, 3)) (hf : m_fl i idx = some (nest, c, k)) (ht : (m_ty c k).1 = 2) (hk : (h_k h o).1 = c + 1) (ex : h_r h o k = r) (hp : pc + 3 = pc') (g : HJ i pc' lv (.ref r :: st) h Q) : HJ i pc lv (.ref o :: st) h Q := by
  subst ex
  exact hI_gr a hf ht hk hp g
theorem hG_ia {j x : Int32} {o : Nat} (a : m_at i pc = some (.iaload, 1)) (hk : (h_k h o).1 = 20) (h0 : 0 ≤ j.toInt) (h1 : j.toInt < (h_k h o).2) (ex : h_i h o j.toInt.toNat = x) (hp : pc + 1 = pc') (g : HJ i pc' lv (.int x :: st) h Q) : HJ i pc lv (.int j :: .ref o :: st) h Q := by
  subst ex
  exact hI_ia a hk h0 h1 hp g
theorem hG_ba {j x : Int32} {o : Nat} (a : m_at i pc = some (.baload, 1)) (hk : (h_k h o).1 = 21 ∨ (h_k h o).1 = 22) (h0 : 0 ≤ j.toInt) (h1 : j.toInt < (h_k h o).2) (ex : h_i h o j.toInt.toNat = x) (hp : pc + 1 = pc') (g : HJ i pc' lv (.int x :: st) h Q) : HJ i pc lv (.int j :: .ref o :: st) h Q := by
  subst ex
  exact hI_ba a hk h0 h1 hp g
end
section
variable {m : Nat} {lv : List (Nat × Value)} {h : MH} {Q : Option Value → MH → Prop}
theorem wt_a {x : Int32} (km : (h_k h m).1 = 10) (ka27 : (h_k h (h_r h m 27)).1 = 20) (ga27 : 16 ≤ h_r h m 27) (ka28 : (h_k h (h_r h m 28)).1 = 20) (ga28 : 16 ≤ h_r h m 28) (ka29 : (h_k h (h_r h m 29)).1 = 20) (ga29 : 16 ≤ h_r h m 29) (ka30 : (h_k h (h_r h m 30)).1 = 20) (ga30 : 16 ≤ h_r h m 30) (ka31 : (h_k h (h_r h m 31)).1 = 20) (ga31 : 16 ≤ h_r h m 31) (ka22 : (h_k h (h_r h m 22)).1 = 21) (ga22 : 16 ≤ h_r h m 22) (ka23 : (h_k h (h_r h m 23)).1 = 20) (ga23 : 16 ≤ h_r h m 23) (l30 : 0 < (h_k h (h_r h m 30)).2) (l31 : 0 < (h_k h (h_r h m 31)).2) (e0 : m_lk lv 0 = some (.ref m)) (e1 : m_lk lv 1 = some (.int x)) (g : HJ 220 16 (m_s1 lv 2 (.int 1)) [] (h_si (h_si h (h_r h m 30) 0 x) (h_r h m 31) 0 (Int32.ofInt (-1))) Q) : HJ 220 0 lv [] h Q := by
  refine hI_ic (n := 1) rfl rfl ?_ -- 0
  refine hI_is (k := 2) rfl (by decide +kernel) rfl ?_ -- 1
  refine hI_al (k := 0) rfl (lk_k1 e0 (by decide) (Or.inl rfl)) rfl ?_ -- 2
  refine hG_r (r := h_r h m 30) (k := 30) (c := 9) rfl rfl rfl km rfl rfl ?_ -- 3 waitNode
  refine hI_ic (n := 0) rfl rfl ?_ -- 6
  refine hI_il (k := 1) rfl (lk_k1 e1 (by decide) (Or.inl rfl)) rfl ?_ -- 7
  refine hI_is_ rfl ga30 ka30 ?_ ?_ rfl ?_ -- 8
  · decide
  · exact Int.ofNat_lt.mpr l30
  refine hI_al (k := 0) rfl (lk_k1 e0 (by decide) (Or.inl rfl)) rfl ?_ -- 9
  refine hG_r (r := h_r h m 31) (k := 31) (c := 9) rfl rfl rfl km rfl rfl ?_ -- 10 waitUp
  refine hI_ic (n := 0) rfl rfl ?_ -- 13
  refine hI_ic (n := (-1)) rfl rfl ?_ -- 14
  refine hI_is_ rfl ga31 ka31 ?_ ?_ rfl ?_ -- 15
  · decide
  · exact Int.ofNat_lt.mpr l31
  exact g -- at 16
theorem wt_c {t v k f26 rk bl : Int32} (km : (h_k h m).1 = 10) (ka27 : (h_k h (h_r h m 27)).1 = 20) (ga27 : 16 ≤ h_r h m 27) (ka28 : (h_k h (h_r h m 28)).1 = 20) (ga28 : 16 ≤ h_r h m 28) (ka29 : (h_k h (h_r h m 29)).1 = 20) (ga29 : 16 ≤ h_r h m 29) (ka30 : (h_k h (h_r h m 30)).1 = 20) (ga30 : 16 ≤ h_r h m 30) (ka31 : (h_k h (h_r h m 31)).1 = 20) (ga31 : 16 ≤ h_r h m 31) (ka22 : (h_k h (h_r h m 22)).1 = 21) (ga22 : 16 ≤ h_r h m 22) (ka23 : (h_k h (h_r h m 23)).1 = 20) (ga23 : 16 ≤ h_r h m 23) (e0 : m_lk lv 0 = some (.ref m)) (e2 : m_lk lv 2 = some (.int t)) (e3 : m_lk lv 3 = some (.int v)) (e4 : m_lk lv 4 = some (.int k)) (e_f26 : h_i h m 26 = f26) (er : h_i h (h_r h m 22) v.toInt.toNat = rk) (eb : h_i h (h_r h m 23) ((Int8.ofInt 6).toInt32 * v + k).toInt.toNat = bl) (n_m_a30 : m ≠ h_r h m 30) (b0 : 0 ≤ t.toInt) (b1 : t.toInt < (h_k h (h_r h m 30)).2) (b2 : t.toInt < (h_k h (h_r h m 31)).2) (b3 : 0 ≤ v.toInt) (b4 : v.toInt < (h_k h (h_r h m 22)).2) (b5 : 0 ≤ ((Int8.ofInt 6).toInt32 * v + k).toInt) (b6 : ((Int8.ofInt 6).toInt32 * v + k).toInt < (h_k h (h_r h m 23)).2) (g1 : ¬ k.toInt < rk.toInt → HJ 220 148 lv [] h Q) (g2 : k.toInt < rk.toInt → HJ 220 100 (m_s1 (m_s1 lv 2 (.int (t + Int32.ofInt 1))) 4 (.int (k + Int32.ofInt 1))) [] (h_si (h_si h (h_r h m 30) t.toInt.toNat bl) (h_r h m 31) t.toInt.toNat f26) Q) : HJ 220 100 lv [] h Q := by
  refine hI_il2 (k := 4) rfl e4 rfl ?_ -- 100
  refine hI_al (k := 0) rfl e0 rfl ?_ -- 102
  refine hG_r (r := h_r h m 22) (k := 22) (c := 9) rfl rfl rfl km rfl rfl ?_ -- 103 rank
  refine hI_il (k := 3) rfl e3 rfl ?_ -- 106
  refine hG_ba (x := rk) rfl (Or.inl ka22) ?_ ?_ er rfl ?_ -- 107
  · exact b3
  · exact b4
  refine hI_cmp (off := 40) (t := 148) rfl (by decide) rfl (fun hb108 => ?_) (fun hb108 => ?_) -- 108
  · exact g1 (by unfold cmpZ at hb108; omega) -- at 148
  · refine hI_al (k := 0) rfl e0 rfl ?_ -- 111
    refine hG_r (r := h_r h m 30) (k := 30) (c := 9) rfl rfl rfl km rfl rfl ?_ -- 112 waitNode
    refine hI_il (k := 2) rfl e2 rfl ?_ -- 115
    refine hI_al (k := 0) rfl e0 rfl ?_ -- 116
    refine hG_r (r := h_r h m 23) (k := 23) (c := 9) rfl rfl rfl km rfl rfl ?_ -- 117 below
    refine hI_bp (n := 6) rfl rfl ?_ -- 120
    refine hI_il (k := 3) rfl e3 rfl ?_ -- 122
    refine hI_mul rfl rfl ?_ -- 123
    refine hI_il2 (k := 4) rfl e4 rfl ?_ -- 124
    refine hI_add rfl rfl ?_ -- 126
    refine hG_ia (x := bl) rfl ka23 ?_ ?_ eb rfl ?_ -- 127
    · exact b5
    · exact b6
    refine hI_is_ rfl ga30 ka30 ?_ ?_ rfl ?_ -- 128
    · exact b0
    · exact b1
    refine hI_al (k := 0) rfl e0 rfl ?_ -- 129
    refine hG_r (r := h_r h m 31) (k := 31) (c := 9) rfl rfl rfl km rfl rfl ?_ -- 130 waitUp
    refine hI_il (k := 2) rfl e2 rfl ?_ -- 133
    refine hI_al (k := 0) rfl e0 rfl ?_ -- 134
    refine hG_i (x := f26) (k := 26) (c := 9) rfl rfl rfl km ((si_f n_m_a30).trans e_f26) rfl ?_ -- 135 walked
    refine hI_is_ rfl ga31 ka31 ?_ ?_ rfl ?_ -- 138
    · exact b0
    · exact b2
    refine hI_inc (k := 2) (z := 1) rfl e2 (by decide +kernel) rfl ?_ -- 139
    refine hI_inc (k := 4) (z := 1) rfl (lk_k1 e4 (by decide) (Or.inl rfl)) (by decide +kernel) rfl ?_ -- 142
    refine hI_go (pc' := 100) (off := -45) rfl (by decide) ?_ -- 145
    exact g2 (by unfold cmpZ at hb108; omega) -- at 100
theorem wt_d {f26 : Int32} (km : (h_k h m).1 = 10) (e0 : m_lk lv 0 = some (.ref m)) (e_f26 : h_i h m 26 = f26) (g : HJ 220 16 lv [] (h_si h m 26 (f26 + Int32.ofInt 1)) Q) : HJ 220 148 lv [] h Q := by
  refine hI_al (k := 0) rfl e0 rfl ?_ -- 148
  refine hI_dup rfl rfl rfl ?_ -- 149
  refine hG_i (x := f26) (k := 26) (c := 9) rfl rfl rfl km e_f26 rfl ?_ -- 150 walked
  refine hI_ic (n := 1) rfl rfl ?_ -- 153
  refine hI_add rfl rfl ?_ -- 154
  refine hI_pi (k := 26) (c := 9) rfl rfl ⟨by decide, by decide +kernel, rfl⟩ km rfl ?_ -- 155 walked
  refine hI_go (pc' := 16) (off := -142) rfl (by decide) ?_ -- 158
  exact g -- at 16
theorem wt_b {t v u f26 du : Int32} (km : (h_k h m).1 = 10) (ka27 : (h_k h (h_r h m 27)).1 = 20) (ga27 : 16 ≤ h_r h m 27) (ka28 : (h_k h (h_r h m 28)).1 = 20) (ga28 : 16 ≤ h_r h m 28) (ka29 : (h_k h (h_r h m 29)).1 = 20) (ga29 : 16 ≤ h_r h m 29) (ka30 : (h_k h (h_r h m 30)).1 = 20) (ga30 : 16 ≤ h_r h m 30) (ka31 : (h_k h (h_r h m 31)).1 = 20) (ga31 : 16 ≤ h_r h m 31) (ka22 : (h_k h (h_r h m 22)).1 = 21) (ga22 : 16 ≤ h_r h m 22) (ka23 : (h_k h (h_r h m 23)).1 = 20) (ga23 : 16 ≤ h_r h m 23) (e0 : m_lk lv 0 = some (.ref m)) (e2 : m_lk lv 2 = some (.int t)) (e_f26 : h_i h m 26 = f26) (ep : h_i h (h_r h m 30) (t + Int32.ofInt (-1)).toInt.toNat = v) (eu : h_i h (h_r h m 31) (t + Int32.ofInt (-1)).toInt.toNat = u) (ed : h_i h (h_r h m 28) u.toInt.toNat = du) (n_m_a27 : m ≠ h_r h m 27) (n_m_a29 : m ≠ h_r h m 29) (n_m_a28 : m ≠ h_r h m 28) (n_a31_a27 : h_r h m 31 ≠ h_r h m 27) (n_a28_a27 : h_r h m 28 ≠ h_r h m 27) (n_a28_a29 : h_r h m 28 ≠ h_r h m 29) (b0 : 0 < t.toInt → 0 ≤ (t + Int32.ofInt (-1)).toInt ∧ (t + Int32.ofInt (-1)).toInt < (h_k h (h_r h m 30)).2 ∧ (t + Int32.ofInt (-1)).toInt < (h_k h (h_r h m 31)).2) (b1 : 0 < t.toInt → 0 ≤ f26.toInt ∧ f26.toInt < (h_k h (h_r h m 27)).2 ∧ f26.toInt < (h_k h (h_r h m 28)).2 ∧ f26.toInt < (h_k h (h_r h m 29)).2) (b2 : cmpZ .ne u.toInt (Int32.ofInt (-1)).toInt → 0 ≤ u.toInt ∧ u.toInt < (h_k h (h_r h m 28)).2) (g0 : t.toInt ≤ 0 → HJ 220 161 lv [] h Q) (g1 : 0 < t.toInt → ¬ cmpZ .ne u.toInt (Int32.ofInt (-1)).toInt → HJ 220 100 (m_s1 (m_s1 (m_s1 lv 2 (.int (t + Int32.ofInt (-1)))) 3 (.int v)) 4 (.int (Int32.ofInt 0))) [] (h_si (h_si (h_si h (h_r h m 27) f26.toInt.toNat v) (h_r h m 29) f26.toInt.toNat u) (h_r h m 28) f26.toInt.toNat (Int32.ofInt 0)) Q) (g2 : 0 < t.toInt → cmpZ .ne u.toInt (Int32.ofInt (-1)).toInt → HJ 220 100 (m_s1 (m_s1 (m_s1 lv 2 (.int (t + Int32.ofInt (-1)))) 3 (.int v)) 4 (.int (Int32.ofInt 0))) [] (h_si (h_si (h_si h (h_r h m 27) f26.toInt.toNat v) (h_r h m 29) f26.toInt.toNat u) (h_r h m 28) f26.toInt.toNat (du + Int32.ofInt 1)) Q) : HJ 220 16 lv [] h Q := by
  refine hI_il (k := 2) rfl e2 rfl ?_ -- 16
  refine hI_if (off := 144) (t := 161) rfl (by decide) rfl (fun hb17 => ?_) (fun hb17 => ?_) -- 17
  · exact g0 (by have z := hb17; unfold cmpZ at z; omega) -- at 161
  · refine hI_inc (k := 2) (z := (-1)) rfl e2 (by decide +kernel) rfl ?_ -- 20
    refine hI_al (k := 0) rfl (lk_k1 e0 (by decide) (Or.inl rfl)) rfl ?_ -- 23
    refine hG_r (r := h_r h m 30) (k := 30) (c := 9) rfl rfl rfl km rfl rfl ?_ -- 24 waitNode
    refine hI_il (k := 2) rfl (lk_s1 _ _) rfl ?_ -- 27
    refine hG_ia (x := v) rfl ka30 ?_ ?_ ep rfl ?_ -- 28
    · exact (b0 (show 0 < t.toInt from by have z := hb17; unfold cmpZ at z; omega)).1
    · exact (b0 (show 0 < t.toInt from by have z := hb17; unfold cmpZ at z; omega)).2.1
    refine hI_is (k := 3) rfl (by decide +kernel) rfl ?_ -- 29
    refine hI_al (k := 0) rfl (lk_k1 (lk_k1 e0 (by decide) (Or.inl rfl)) (by decide) (Or.inl rfl)) rfl ?_ -- 30
    refine hG_r (r := h_r h m 27) (k := 27) (c := 9) rfl rfl rfl km rfl rfl ?_ -- 31 at
    refine hI_al (k := 0) rfl (lk_k1 (lk_k1 e0 (by decide) (Or.inl rfl)) (by decide) (Or.inl rfl)) rfl ?_ -- 34
    refine hG_i (x := f26) (k := 26) (c := 9) rfl rfl rfl km e_f26 rfl ?_ -- 35 walked
    refine hI_il (k := 3) rfl (lk_s1 _ _) rfl ?_ -- 38
    refine hI_is_ rfl ga27 ka27 ?_ ?_ rfl ?_ -- 39
    · exact (b1 (show 0 < t.toInt from by have z := hb17; unfold cmpZ at z; omega)).1
    · exact (b1 (show 0 < t.toInt from by have z := hb17; unfold cmpZ at z; omega)).2.1
    refine hI_al (k := 0) rfl (lk_k1 (lk_k1 e0 (by decide) (Or.inl rfl)) (by decide) (Or.inl rfl)) rfl ?_ -- 40
    refine hG_r (r := h_r h m 29) (k := 29) (c := 9) rfl rfl rfl km rfl rfl ?_ -- 41 up
    refine hI_al (k := 0) rfl (lk_k1 (lk_k1 e0 (by decide) (Or.inl rfl)) (by decide) (Or.inl rfl)) rfl ?_ -- 44
    refine hG_i (x := f26) (k := 26) (c := 9) rfl rfl rfl km ((si_f n_m_a27).trans e_f26) rfl ?_ -- 45 walked
    refine hI_al (k := 0) rfl (lk_k1 (lk_k1 e0 (by decide) (Or.inl rfl)) (by decide) (Or.inl rfl)) rfl ?_ -- 48
    refine hG_r (r := h_r h m 31) (k := 31) (c := 9) rfl rfl rfl km rfl rfl ?_ -- 49 waitUp
    refine hI_il (k := 2) rfl (lk_k1 (lk_s1 _ _) (by decide) (Or.inl rfl)) rfl ?_ -- 52
    refine hG_ia (x := u) rfl ka31 ?_ ?_ ((si_f n_a31_a27).trans eu) rfl ?_ -- 53
    · exact (b0 (show 0 < t.toInt from by have z := hb17; unfold cmpZ at z; omega)).1
    · exact (b0 (show 0 < t.toInt from by have z := hb17; unfold cmpZ at z; omega)).2.2
    refine hI_is_ rfl ga29 ka29 ?_ ?_ rfl ?_ -- 54
    · exact (b1 (show 0 < t.toInt from by have z := hb17; unfold cmpZ at z; omega)).1
    · exact (b1 (show 0 < t.toInt from by have z := hb17; unfold cmpZ at z; omega)).2.2.2
    refine hI_al (k := 0) rfl (lk_k1 (lk_k1 e0 (by decide) (Or.inl rfl)) (by decide) (Or.inl rfl)) rfl ?_ -- 55
    refine hG_r (r := h_r h m 28) (k := 28) (c := 9) rfl rfl rfl km rfl rfl ?_ -- 56 deep
    refine hI_al (k := 0) rfl (lk_k1 (lk_k1 e0 (by decide) (Or.inl rfl)) (by decide) (Or.inl rfl)) rfl ?_ -- 59
    refine hG_i (x := f26) (k := 26) (c := 9) rfl rfl rfl km ((si_f n_m_a29).trans ((si_f n_m_a27).trans e_f26)) rfl ?_ -- 60 walked
    refine hI_al (k := 0) rfl (lk_k1 (lk_k1 e0 (by decide) (Or.inl rfl)) (by decide) (Or.inl rfl)) rfl ?_ -- 63
    refine hG_r (r := h_r h m 29) (k := 29) (c := 9) rfl rfl rfl km rfl rfl ?_ -- 64 up
    refine hI_al (k := 0) rfl (lk_k1 (lk_k1 e0 (by decide) (Or.inl rfl)) (by decide) (Or.inl rfl)) rfl ?_ -- 67
    refine hG_i (x := f26) (k := 26) (c := 9) rfl rfl rfl km ((si_f n_m_a29).trans ((si_f n_m_a27).trans e_f26)) rfl ?_ -- 68 walked
    refine hG_ia (x := u) rfl ka29 ?_ ?_ si_s rfl ?_ -- 71
    · exact (b1 (show 0 < t.toInt from by have z := hb17; unfold cmpZ at z; omega)).1
    · exact (b1 (show 0 < t.toInt from by have z := hb17; unfold cmpZ at z; omega)).2.2.2
    refine hI_ic (n := (-1)) rfl rfl ?_ -- 72
    refine hI_cmp (off := 7) (t := 80) rfl (by decide) rfl (fun hb73 => ?_) (fun hb73 => ?_) -- 73
    · refine hI_al (k := 0) rfl (lk_k1 (lk_k1 e0 (by decide) (Or.inl rfl)) (by decide) (Or.inl rfl)) rfl ?_ -- 80
      refine hG_r (r := h_r h m 28) (k := 28) (c := 9) rfl rfl rfl km rfl rfl ?_ -- 81 deep
      refine hI_al (k := 0) rfl (lk_k1 (lk_k1 e0 (by decide) (Or.inl rfl)) (by decide) (Or.inl rfl)) rfl ?_ -- 84
      refine hG_r (r := h_r h m 29) (k := 29) (c := 9) rfl rfl rfl km rfl rfl ?_ -- 85 up
      refine hI_al (k := 0) rfl (lk_k1 (lk_k1 e0 (by decide) (Or.inl rfl)) (by decide) (Or.inl rfl)) rfl ?_ -- 88
      refine hG_i (x := f26) (k := 26) (c := 9) rfl rfl rfl km ((si_f n_m_a29).trans ((si_f n_m_a27).trans e_f26)) rfl ?_ -- 89 walked
      refine hG_ia (x := u) rfl ka29 ?_ ?_ si_s rfl ?_ -- 92
      · exact (b1 (show 0 < t.toInt from by have z := hb17; unfold cmpZ at z; omega)).1
      · exact (b1 (show 0 < t.toInt from by have z := hb17; unfold cmpZ at z; omega)).2.2.2
      refine hG_ia (x := du) rfl ka28 ?_ ?_ ((si_f n_a28_a29).trans ((si_f n_a28_a27).trans ed)) rfl ?_ -- 93
      · exact (b2 hb73).1
      · exact (b2 hb73).2
      refine hI_ic (n := 1) rfl rfl ?_ -- 94
      refine hI_add rfl rfl ?_ -- 95
      refine hI_is_ rfl ga28 ka28 ?_ ?_ rfl ?_ -- 96
      · exact (b1 (show 0 < t.toInt from by have z := hb17; unfold cmpZ at z; omega)).1
      · exact (b1 (show 0 < t.toInt from by have z := hb17; unfold cmpZ at z; omega)).2.2.1
      refine hI_ic (n := 0) rfl rfl ?_ -- 97
      refine hI_is2 (k := 4) rfl (by decide +kernel) rfl ?_ -- 98
      first | exact g1 (show 0 < t.toInt from by have z := hb17; unfold cmpZ at z; omega) hb73 | exact g2 (show 0 < t.toInt from by have z := hb17; unfold cmpZ at z; omega) hb73 -- at 100
    · refine hI_ic (n := 0) rfl rfl ?_ -- 76
      refine hI_go (pc' := 96) (off := 19) rfl (by decide) ?_ -- 77
      refine hI_is_ rfl ga28 ka28 ?_ ?_ rfl ?_ -- 96
      · exact (b1 (show 0 < t.toInt from by have z := hb17; unfold cmpZ at z; omega)).1
      · exact (b1 (show 0 < t.toInt from by have z := hb17; unfold cmpZ at z; omega)).2.2.1
      refine hI_ic (n := 0) rfl rfl ?_ -- 97
      refine hI_is2 (k := 4) rfl (by decide +kernel) rfl ?_ -- 98
      first | exact g1 (show 0 < t.toInt from by have z := hb17; unfold cmpZ at z; omega) hb73 | exact g2 (show 0 < t.toInt from by have z := hb17; unfold cmpZ at z; omega) hb73 -- at 100
end
-- THE WALK'S NUMBERS
def w_S (rk P : Nat → Int) : Nat → Nat
  | 0 => 0
  | t + 1 => w_S rk P t + 2 ^ (rk (P t).toNat).toNat
theorem w_Sc {rk P P' : Nat → Int} : ∀ {t : Nat}, (∀ j, j < t → P' j = P j) → w_S rk P' t = w_S rk P t
  | 0, _ => rfl
  | t + 1, h => by
    rw [w_S, w_S, w_Sc (fun j hj => h j (by omega)), h t (by omega)]
theorem w_Sg {rk P : Nat → Int} : ∀ t : Nat, t ≤ w_S rk P t
  | 0 => Nat.le_refl _
  | t + 1 => by
    rw [w_S]
    have a := w_Sg (rk := rk) (P := P) t
    have b : 0 < 2 ^ (rk (P t).toNat).toNat := Nat.pow_pos (by decide)
    omega
def w_en (n : Int) (rk P U D : Nat → Int) (b : Int) (j : Nat) : Prop := (0 ≤ P j ∧ P j < n ∧ rk (P j).toNat ≤ 5) ∧ (U j = -1 ∨ (0 ≤ U j ∧ U j < b ∧ D (U j).toNat + 1 + rk (P j).toNat ≤ 5))
-- at the outer head; at the inner one
def w_J (n : Int) (rk P U D : Nat → Int) (W t w : Nat) : Prop := (∀ j, j < t → w_en n rk P U D w j) ∧ w_S rk P t + w = W
def w_K (n : Int) (rk P U D : Nat → Int) (W t k v w : Nat) : Prop := ((v : Int) < n ∧ rk v ≤ 5 ∧ 0 ≤ D w ∧ D w + rk v ≤ 5 ∧ (k : Int) ≤ rk v) ∧ (∀ j, j < t → w_en n rk P U D (w + 1) j) ∧ w_S rk P t + 1 + 2 ^ (rk v).toNat + w = W + 2 ^ k
section
variable {n : Int} {rk bl P U D P' U' D' : Nat → Int} {W t k v w : Nat}
theorem w_pop (sh : p_sh n rk bl) (q : w_J n rk P U D W (t + 1) w) (hv : P t = (v : Int)) (hd : ∀ j, j ≠ w → D' j = D j) (hw : (U t = -1 → D' w = 0) ∧ (U t ≠ -1 → D' w = D (U t).toNat + 1)) (hD : 0 ≤ D (U t).toNat) : w_K n rk P U D' W t 0 v w := by
  obtain ⟨q1, q2⟩ := q
  obtain ⟨⟨a1, a2, a3⟩, a4⟩ := q1 t (by omega)
  rw [hv] at a2 a3 a4
  rw [Int.toNat_natCast] at a3 a4
  have r0 := (sh v a2).1.1
  rw [w_S, hv, Int.toNat_natCast] at q2
  have hdw : 0 ≤ D' w ∧ D' w + rk v ≤ 5 := by
    by_cases e : U t = -1
    · rw [hw.1 e]
      omega
    · rw [hw.2 e]
      rcases a4 with z | z
      · exact absurd z e
      · omega
  refine ⟨⟨a2, a3, hdw.1, hdw.2, by omega⟩, fun j hj => ?_, ?_⟩
  · obtain ⟨b1, b2⟩ := q1 j (by omega)
    refine ⟨b1, ?_⟩
    rcases b2 with z | ⟨z1, z2, z3⟩
    · exact Or.inl z
    · refine Or.inr ⟨z1, by omega, ?_⟩
      rw [hd _ (by omega)]
      exact z3
  · rw [Nat.pow_zero]
    omega
theorem w_push (sh : p_sh n rk bl) (q : w_K n rk P U D W t k v w) (hk : (k : Int) < rk v) (hP : P' t = bl (6 * v + k)) (hP2 : ∀ j, j < t → P' j = P j) (hU : U' t = w) (hU2 : ∀ j, j < t → U' j = U j) : w_K n rk P' U' D W (t + 1) (k + 1) v w := by
  obtain ⟨⟨a1, a2, a3, a4, a5⟩, q1, q2⟩ := q
  obtain ⟨-, sb⟩ := sh v a1
  obtain ⟨c1, c2, c3⟩ := sb k hk
  refine ⟨⟨a1, a2, a3, a4, by omega⟩, fun j hj => ?_, ?_⟩
  · by_cases e : j = t
    · subst e
      refine ⟨⟨by rw [hP]; exact c1, by rw [hP]; omega, by rw [hP, c3]; omega⟩, Or.inr ⟨by rw [hU]; omega, by rw [hU]; omega, ?_⟩⟩
      rw [hU, hP, c3, Int.toNat_natCast]
      omega
    · have hj2 : j < t := by omega
      unfold w_en
      rw [hP2 j hj2, hU2 j hj2]
      exact q1 j hj2
  · rw [w_S, w_Sc hP2, hP, c3, Int.toNat_natCast, Nat.pow_succ]
    omega
theorem w_out (q : w_K n rk P U D W t k v w) (hk : ¬ (k : Int) < rk v) : w_J n rk P U D W t (w + 1) := by
  obtain ⟨⟨a1, a2, a3, a4, a5⟩, q1, q2⟩ := q
  have e : (rk v).toNat = k := by omega
  rw [e] at q2
  exact ⟨fun j hj => q1 j hj, by omega⟩
-- the rows are long enough
theorem w_KB (q : w_K n rk P U D W t k v w) (hk : (k : Int) < rk v) (hW : W ≤ 63) : t < 62 ∧ w < 62 := by
  obtain ⟨⟨a1, a2, a3, a4, a5⟩, q1, q2⟩ := q
  have g := w_Sg (rk := rk) (P := P) t
  have e : 2 ^ (k + 1) ≤ 2 ^ (rk v).toNat := Nat.pow_le_pow_right (by decide) (by omega)
  have e2 : 0 < 2 ^ k := Nat.pow_pos (by decide)
  rw [Nat.pow_succ] at e
  omega
theorem w_JB (q : w_J n rk P U D W (t + 1) w) (hW : W ≤ 63) : t < 63 ∧ w < 63 := by
  have g := w_Sg (rk := rk) (P := P) (t + 1)
  have := q.2
  omega
end
-- THE WALK'S HEAP
def w_W : List (Nat × Nat) := [(49, 26), (63, 1001), (64, 1001), (65, 1001), (66, 1001), (67, 1001)]
theorem w_nW {R k : Nat} (hb : w_W.all (fun q => !(q.1 == R)) = true) : ¬ t_W w_W R k := fun z => by
  have key : ∀ j, ¬ (R, j) ∈ w_W := fun j z => by
    have e := List.all_eq_true.mp hb _ z
    simp at e
  rcases z with z | z
  · exact key _ z
  · exact key _ z
def w_P (h : MH) (m j : Nat) : Int := (h_i h (h_r h m 30) j).toInt
def w_U (h : MH) (m j : Nat) : Int := (h_i h (h_r h m 31) j).toInt
def w_D (h : MH) (m j : Nat) : Int := (h_i h (h_r h m 28) j).toInt
section
variable {ρ : Nat → Nat} {h h0 : MH} {m : Nat}
theorem w_ar {k R K L : Nat} {rs : RS} (ht : TH c_sp ρ h) (hm : ρ m = 49) (hf : r_ft (c_sp.getD 49 ((0, (0, 0)), (false, (false, [])))) k = some (.inr (.inr (R, true)))) (hR : R ≠ 0) (hs : c_sp[R]? = some rs) (hk : rs.1 = (K, (L, L)) ∧ rs.2.1 = true) : (h_k h (h_r h m k)).1 = K ∧ (h_k h (h_r h m k)).2 = L ∧ 16 ≤ h_r h m k ∧ ρ (h_r h m k) = R := by
  have e := (th_rf (R := 49) ht (by decide) rfl hm hf (fun z => by cases z)).2
  obtain ⟨a1, ⟨a2, a3⟩, a4, -⟩ := t_spec ht hR hs e
  rw [hk.1] at a1 a2 a3
  exact ⟨a1, Nat.le_antisymm a3 a2, a4 hk.2, e⟩
theorem w_fr (ht : TH c_sp ρ h0) (hm : ρ m = 49) (f : FR ρ w_W h0 h) : v_n h m = v_n h0 m ∧ v_rk h m = v_rk h0 m ∧ v_bl h m = v_bl h0 m := by
  have nf : ∀ k, ¬ (49, k) ∈ w_W → h_i h m k = h_i h0 m k ∧ h_r h m k = h_r h0 m k := fun k hk => by
    have := f.2.2 m k (by
      rw [hm]
      intro z
      rcases z with z | z
      · exact hk z
      · revert z
        decide)
    exact ⟨this.1, this.2.2⟩
  have rk := (th_rf (R := 49) ht (by decide) rfl hm (k := 22) rfl (fun z => by cases z)).2
  have bl := (th_rf (R := 49) ht (by decide) rfl hm (k := 23) rfl (fun z => by cases z)).2
  refine ⟨congrArg Int32.toInt (nf _ (by decide)).1, funext (fun j => ?_), funext (fun j => ?_)⟩
  · show (h_i h (h_r h m 22) j).toInt = (h_i h0 (h_r h0 m 22) j).toInt
    rw [(nf 22 (by decide)).2, (f.2.2 _ j (by rw [rk]; exact w_nW (by decide))).1]
  · show (h_i h (h_r h m 23) j).toInt = (h_i h0 (h_r h0 m 23) j).toInt
    rw [(nf 23 (by decide)).2, (f.2.2 _ j (by rw [bl]; exact w_nW (by decide))).1]
theorem wk_nn (ht : TH c_sp ρ h) (hm : ρ m = 49) : 0 ≤ v_n h m ∧ v_n h m ≤ 16000 := (t_spec ht (R := 49) (by decide) rfl hm).2.2.2 17 (.inl (0, 16000)) rfl (fun z => by cases z)
theorem w_ne {a b Ra Rb : Nat} (ha : ρ a = Ra) (hb : ρ b = Rb) (h : Ra ≠ Rb) : a ≠ b := fun e => h (by rw [← ha, ← hb, e])
theorem w_KB2 {n : Int} {rk P U D : Nat → Int} {W t k v w : Nat} (q : w_K n rk P U D W t k v w) (hW : W ≤ 63) : t ≤ 62 ∧ w ≤ 62 := by
  obtain ⟨⟨a1, a2, a3, a4, a5⟩, q1, q2⟩ := q
  have g := w_Sg (rk := rk) (P := P) t
  have e : 2 ^ k ≤ 2 ^ (rk v).toNat := Nat.pow_le_pow_right (by decide) (by omega)
  omega
theorem i_6 {v k : Nat} {vx kx : Int32} (hv : vx.toInt = (v : Int)) (hk : kx.toInt = (k : Int)) (h1 : v < 16000) (h2 : k < 6) : ((Int8.ofInt 6).toInt32 * vx + kx).toInt = 6 * (v : Int) + k := by
  have e6 : (Int8.ofInt 6).toInt32.toInt = 6 := by decide
  have m6 : ((Int8.ofInt 6).toInt32 * vx).toInt = 6 * (v : Int) := by
    rw [i_mul _ _ (by rw [e6, hv]; omega) (by rw [e6, hv]; omega), e6, hv]
  rw [i_add _ _ (by rw [m6, hk]; omega) (by rw [m6, hk]; omega), m6, hk]
theorem i_p1 {t : Nat} {tx : Int32} (h : tx.toInt = (t : Int)) (h1 : t < 1000000) : (tx + Int32.ofInt 1).toInt = ((t + 1 : Nat) : Int) := by
  have e1 : (Int32.ofInt 1).toInt = 1 := by decide
  rw [i_add _ _ (by rw [e1, h]; omega) (by rw [e1, h]; omega), e1, h]
  omega
theorem w_in1 (ht0 : TH c_sp ρ h0) (hm : ρ m = 49) (sh : p_sh (v_n h0 m) (v_rk h0 m) (v_bl h0 m)) {W v w t k : Nat} (hW : W ≤ 63) {Q : Option Value → MH → Prop} {vx tx kx : Int32} {lv : List (Nat × Value)} (hv : vx.toInt = (v : Int)) (ht : TH c_sp ρ h) (f : FR ρ w_W h0 h) (e0 : m_lk lv 0 = some (.ref m)) (e2 : m_lk lv 2 = some (.int tx)) (ht2 : tx.toInt = (t : Int)) (e3 : m_lk lv 3 = some (.int vx)) (e4 : m_lk lv 4 = some (.int kx)) (hk : kx.toInt = (k : Int)) (hw : (h_i h m 26).toInt = (w : Int)) (q : w_K (v_n h0 m) (v_rk h0 m) (w_P h m) (w_U h m) (w_D h m) W t k v w) (cont : ¬ (k : Int) < v_rk h0 m v → HJ 220 148 lv [] h Q) (nxt : ∀ (lv : List (Nat × Value)) (h : MH) (tx kx : Int32), (k : Int) < v_rk h0 m v → TH c_sp ρ h → FR ρ w_W h0 h → m_lk lv 0 = some (.ref m) → m_lk lv 2 = some (.int tx) → tx.toInt = ((t + 1 : Nat) : Int) → m_lk lv 3 = some (.int vx) → m_lk lv 4 = some (.int kx) → kx.toInt = ((k + 1 : Nat) : Int) → (h_i h m 26).toInt = (w : Int) → w_K (v_n h0 m) (v_rk h0 m) (w_P h m) (w_U h m) (w_D h m) W (t + 1) (k + 1) v w → HJ 220 100 lv [] h Q) : HJ 220 100 lv [] h Q := by
  obtain ⟨k27, l27, g27, r27⟩ := w_ar (k := 27) (R := 63) ht hm rfl (by decide) rfl ⟨rfl, rfl⟩
  obtain ⟨k28, l28, g28, r28⟩ := w_ar (k := 28) (R := 64) ht hm rfl (by decide) rfl ⟨rfl, rfl⟩
  obtain ⟨k29, l29, g29, r29⟩ := w_ar (k := 29) (R := 65) ht hm rfl (by decide) rfl ⟨rfl, rfl⟩
  obtain ⟨k30, l30, g30, r30⟩ := w_ar (k := 30) (R := 66) ht hm rfl (by decide) rfl ⟨rfl, rfl⟩
  obtain ⟨k31, l31, g31, r31⟩ := w_ar (k := 31) (R := 67) ht hm rfl (by decide) rfl ⟨rfl, rfl⟩
  obtain ⟨k22, l22, g22, r22⟩ := w_ar (k := 22) (R := 59) ht hm rfl (by decide) rfl ⟨rfl, rfl⟩
  obtain ⟨k23, l23, g23, r23⟩ := w_ar (k := 23) (R := 60) ht hm rfl (by decide) rfl ⟨rfl, rfl⟩
  have km : (h_k h m).1 = 10 := (t_spec ht (R := 49) (by decide) rfl hm).1
  obtain ⟨en, er, eb⟩ := w_fr ht0 hm f
  have nn := wk_nn ht0 hm
  have kb := w_KB2 q hW
  have a1 := q.1.1
  have a2 := q.1.2.1
  have a5 := q.1.2.2.2.2
  have vN : vx.toInt.toNat = v := by omega
  have tN : tx.toInt.toNat = t := by omega
  have x6 := i_6 (v := v) (k := k) hv hk (by omega) (by omega)
  have xN : ((Int8.ofInt 6).toInt32 * vx + kx).toInt.toNat = 6 * v + k := by rw [x6]; omega
  have rkE : (h_i h (h_r h m 22) v).toInt = v_rk h0 m v := congrFun er v
  have n3 : m ≠ h_r h m 30 := w_ne hm r30 (by decide)
  have n4 : m ≠ h_r h m 31 := w_ne hm r31 (by decide)
  have n5 : h_r h m 30 ≠ h_r h m 31 := w_ne r30 r31 (by decide)
  have n6 : h_r h m 28 ≠ h_r h m 30 := w_ne r28 r30 (by decide)
  have n7 : h_r h m 28 ≠ h_r h m 31 := w_ne r28 r31 (by decide)
  refine wt_c (t := tx) (v := vx) (k := kx) (f26 := h_i h m 26) (rk := h_i h (h_r h m 22) v) (bl := h_i h (h_r h m 23) (6 * v + k)) km k27 g27 k28 g28 k29 g29 k30 g30 k31 g31 k22 g22 k23 g23 e0 e2 e3 e4 rfl (by rw [vN]) (by rw [xN]) n3 (by omega) (by rw [l30]; omega) (by rw [l31]; omega) (by omega) (by rw [l22]; omega) (by rw [x6]; omega) (by rw [x6, l23]; omega) (fun hn => cont (by rw [hk, rkE] at hn; exact hn)) (fun hlt => ?_)
  rw [hk, rkE] at hlt
  obtain ⟨c1, c2, c3⟩ := (sh v a1).2 k hlt
  have blE : (h_i h (h_r h m 23) (6 * v + k)).toInt = v_bl h0 m (6 * v + k) := congrFun eb (6 * v + k)
  rw [tN]
  have th1 : TH c_sp ρ (h_si h (h_r h m 30) t (h_i h (h_r h m 23) (6 * v + k))) := s_siT ht (R := 66) (p := (0, 15999)) (by decide) rfl r30 rfl (by show (0 : Int) ≤ _; omega) (by show _ ≤ (15999 : Int); omega)
  have th2 : TH c_sp ρ (h_si (h_si h (h_r h m 30) t (h_i h (h_r h m 23) (6 * v + k))) (h_r h m 31) t (h_i h m 26)) := s_siT th1 (R := 67) (p := (-1, 62)) (by decide) rfl r31 rfl (by show (-1 : Int) ≤ _; omega) (by show _ ≤ (62 : Int); omega)
  refine nxt _ _ (tx + Int32.ofInt 1) (kx + Int32.ofInt 1) hlt th2 ((f.trans (s_siF r30 (Or.inr (by decide)))).trans (s_siF r31 (Or.inr (by decide)))) (lk_k1 (lk_k1 e0 (by decide) (Or.inl rfl)) (by decide) (Or.inl rfl)) (lk_k1 (lk_s1 _ _) (by decide) (Or.inl rfl)) (i_p1 ht2 (by omega)) (lk_k1 (lk_k1 e3 (by decide) (Or.inl rfl)) (by decide) (Or.inl rfl)) (lk_s1 _ _) (i_p1 hk (by omega)) (by rw [si_f n4, si_f n3]; exact hw) ?_
  have eD : w_D (h_si (h_si h (h_r h m 30) t (h_i h (h_r h m 23) (6 * v + k))) (h_r h m 31) t (h_i h m 26)) m = w_D h m := funext (fun j => congrArg Int32.toInt ((si_f n7).trans (si_f n6)))
  rw [eD]
  refine w_push (P := w_P h m) (U := w_U h m) sh q hlt ?_ (fun j hj => ?_) ?_ (fun j hj => ?_)
  · exact (congrArg Int32.toInt ((si_f n5).trans si_s)).trans blE
  · exact congrArg Int32.toInt ((si_f n5).trans (si_n (by omega)))
  · exact (congrArg Int32.toInt si_s).trans hw
  · exact congrArg Int32.toInt ((si_n (by omega)).trans (si_f n5.symm))
end
