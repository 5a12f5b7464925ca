-- A WALK, PURE: what it keeps
def wk_ok (S : PSt) (O : WKt) : Prop := ∀ i, i < O.1 → (0 ≤ O.2.1 i ∧ O.2.1 i < (ps_n S : Int)) ∧ ((O.2.2.1 i = -1 ∧ O.2.2.2 i = 0) ∨ (0 ≤ O.2.2.1 i ∧ O.2.2.1 i < (i : Int) ∧ O.2.2.2 i = O.2.2.2 (O.2.2.1 i).toNat + 1)) ∧ (0 ≤ O.2.2.2 i ∧ O.2.2.2 i + ps_k S (O.2.1 i).toNat ≤ 5)
def wq_ok (S : PSt) (O : WKt) (q : Int × Int) : Prop := (0 ≤ q.1 ∧ q.1 < (ps_n S : Int)) ∧ (q.2 = -1 ∨ (0 ≤ q.2 ∧ q.2 < (O.1 : Int) ∧ O.2.2.2 q.2.toNat + 1 + ps_k S q.1.toNat ≤ 5))
def wq_w (S : PSt) : List (Int × Int) → Nat
  | [] => 0
  | q :: l => 2 ^ (ps_k S q.1.toNat).toNat + wq_w S l
def wk_in (S : PSt) (W : Nat) (l : List (Int × Int)) (O : WKt) : Prop := wk_ok S O ∧ (∀ q ∈ l, wq_ok S O q) ∧ wq_w S l + O.1 = W
theorem wq_wL {S : PSt} : ∀ l : List (Int × Int), l.length ≤ wq_w S l
  | [] => Nat.le_refl _
  | q :: l => by
    have a := wq_wL (S := S) l
    have b : 0 < 2 ^ (ps_k S q.1.toNat).toNat := Nat.pow_pos (by decide)
    show l.length + 1 ≤ 2 ^ (ps_k S q.1.toNat).toNat + wq_w S l
    omega
theorem wq_wA {S : PSt} {l2 : List (Int × Int)} : ∀ l : List (Int × Int), wq_w S (l ++ l2) = wq_w S l + wq_w S l2
  | [] => (Nat.zero_add _).symm
  | q :: l => by
    show 2 ^ (ps_k S q.1.toNat).toNat + wq_w S (l ++ l2) = 2 ^ (ps_k S q.1.toNat).toNat + wq_w S l + wq_w S l2
    rw [wq_wA l, Nat.add_assoc]
theorem wk_chW {S : PSt} {v : Int} {w : Nat} (sh : ps_sh S) (v0 : 0 ≤ v) (v1 : v < (ps_n S : Int)) : ∀ j : Nat, (j : Int) ≤ ps_k S v.toNat → wq_w S (wk_ch S v w j) + 1 = 2 ^ j
  | 0, _ => rfl
  | j + 1, h => by
    have a := wk_chW sh v0 v1 (w := w) j (by omega)
    have b := (sh v.toNat (by omega)).2 j (by omega)
    show 2 ^ (ps_k S (ps_b S (6 * v.toNat + j)).toNat).toNat + wq_w S (wk_ch S v w j) + 1 = 2 ^ (j + 1)
    rw [b.2.2, Int.toNat_natCast, Nat.pow_succ]
    omega
theorem wk_chM {S : PSt} {v : Int} {w : Nat} : ∀ j : Nat, ∀ q ∈ wk_ch S v w j, ∃ r, r < j ∧ q = (ps_b S (6 * v.toNat + r), (w : Int))
  | 0 => fun q hq => by cases hq
  | j + 1 => fun q hq => by
    rcases List.mem_cons.mp hq with z | z
    · exact ⟨j, by omega, z⟩
    · obtain ⟨r, h1, h2⟩ := wk_chM j q z
      exact ⟨r, by omega, h2⟩
theorem wk_chL {S : PSt} {v : Int} {w : Nat} : ∀ j : Nat, (wk_ch S v w j).length = j
  | 0 => rfl
  | j + 1 => by
    show (wk_ch S v w j).length + 1 = _
    rw [wk_chL j]
theorem wk_onX {S : PSt} {W : Nat} {v u : Int} {l : List (Int × Int)} {O : WKt} (sh : ps_sh S) (I : wk_in S W ((v, u) :: l) O) : wk_in S W (wk_ch S v O.1 (ps_k S v.toNat).toNat ++ l) (wk_on v u O) := by
  obtain ⟨i1, i2, i3⟩ := I
  obtain ⟨⟨v0, v1⟩, hu⟩ := i2 (v, u) (List.mem_cons_self ..)
  have v0 : 0 ≤ v := v0
  have v1 : v < (ps_n S : Int) := v1
  have hu : u = -1 ∨ (0 ≤ u ∧ u < (O.1 : Int) ∧ O.2.2.2 u.toNat + 1 + ps_k S v.toNat ≤ 5) := hu
  have kv := sh v.toNat (by omega)
  have w1 : (wk_on v u O).1 = O.1 + 1 := rfl
  have wA : ∀ i, i ≠ O.1 → (wk_on v u O).2.1 i = O.2.1 i := fun i h => m_uN _ _ _ _ h
  have wU : ∀ i, i ≠ O.1 → (wk_on v u O).2.2.1 i = O.2.2.1 i := fun i h => m_uN _ _ _ _ h
  have wD : ∀ i, i ≠ O.1 → (wk_on v u O).2.2.2 i = O.2.2.2 i := fun i h => m_uN _ _ _ _ h
  have wA' : (wk_on v u O).2.1 O.1 = v := m_uE _ _ _
  have wU' : (wk_on v u O).2.2.1 O.1 = u := m_uE _ _ _
  have wD' : (wk_on v u O).2.2.2 O.1 = if u = -1 then 0 else O.2.2.2 u.toNat + 1 := m_uE _ _ _
  have dv : 0 ≤ (wk_on v u O).2.2.2 O.1 ∧ (wk_on v u O).2.2.2 O.1 + ps_k S v.toNat ≤ 5 := by
    rw [wD']
    rcases hu with z | ⟨z1, z2, z3⟩
    · rw [if_pos z]
      omega
    · rw [if_neg (by omega)]
      have := (i1 u.toNat (by omega)).2.2.1
      omega
  refine ⟨fun i hi => ?_, fun q hq => ?_, ?_⟩
  · rw [w1] at hi
    by_cases e : i = O.1
    · rw [e, wA', wU']
      refine ⟨⟨v0, v1⟩, ?_, dv⟩
      rcases hu with z | ⟨z1, z2, z3⟩
      · exact Or.inl ⟨z, by rw [wD', if_pos z]⟩
      · exact Or.inr ⟨z1, z2, by rw [wD', if_neg (by omega), wD _ (by omega)]⟩
    · rw [wA i e, wU i e, wD i e]
      obtain ⟨a, b, c⟩ := i1 i (by omega)
      refine ⟨a, ?_, c⟩
      rcases b with z | ⟨z1, z2, z3⟩
      · exact Or.inl z
      · exact Or.inr ⟨z1, z2, by rw [wD _ (by omega)]; exact z3⟩
  · rcases List.mem_append.mp hq with z | z
    · obtain ⟨r, r1, r2⟩ := wk_chM _ q z
      obtain ⟨b0, b1, b2⟩ := kv.2 r (by omega)
      rw [r2]
      exact ⟨⟨b0, b1⟩, Or.inr ⟨Int.natCast_nonneg _, by rw [w1]; show (O.1 : Int) < _; omega, by show (wk_on v u O).2.2.2 (O.1 : Int).toNat + 1 + ps_k S (ps_b S (6 * v.toNat + r)).toNat ≤ 5; rw [Int.toNat_natCast, b2]; omega⟩⟩
    · obtain ⟨a, b⟩ := i2 q (List.mem_cons_of_mem _ z)
      refine ⟨a, ?_⟩
      rcases b with y | ⟨y1, y2, y3⟩
      · exact Or.inl y
      · exact Or.inr ⟨y1, by rw [w1]; omega, by rw [wD _ (by omega)]; exact y3⟩
  · rw [wq_wA, w1]
    have a := wk_chW (w := O.1) sh v0 v1 (ps_k S v.toNat).toNat (by omega)
    have b : 2 ^ (ps_k S v.toNat).toNat + wq_w S l + O.1 = W := i3
    omega
theorem wk_rsW {S : PSt} {f : Nat → Int} (hf : hp_in S f) : ∀ d r : Nat, r + d ≤ 6 → (∀ q ∈ wk_rs f d r, wq_ok S wk_0 q) ∧ wq_w S (wk_rs f d r) + p_ws f r = p_ws f (r + d)
  | 0, r, _ => ⟨fun q hq => (by cases hq), Nat.zero_add _⟩
  | d + 1, r, h => by
    obtain ⟨a, b⟩ := wk_rsW hf d (r + 1) (by omega)
    have e : r + 1 + d = r + (d + 1) := by omega
    rw [e, p_ws] at b
    rw [wk_rs]
    by_cases c : f r = -1
    · rw [if_pos c]
      rw [y_tg0 c] at b
      exact ⟨a, by omega⟩
    · rw [if_neg c]
      rw [y_tg1 c] at b
      obtain ⟨f0, f1, f2⟩ := (hf r (by omega)).resolve_left c
      refine ⟨fun q hq => ?_, ?_⟩
      · rcases List.mem_cons.mp hq with z | z
        · rw [z]
          exact ⟨⟨f0, f1⟩, Or.inl rfl⟩
        · exact a q z
      · show 2 ^ (ps_k S (f r).toNat).toNat + wq_w S (wk_rs f d (r + 1)) + p_ws f r = _
        rw [f2, Int.toNat_natCast]
        omega
theorem wk_in0 {S : PSt} {f : Nat → Int} (hf : hp_in S f) : wk_in S (p_ws f 6) (wk_rs f 6 0) wk_0 := by
  obtain ⟨a, b⟩ := wk_rsW hf 6 0 (by omega)
  exact ⟨fun i hi => absurd hi (Nat.not_lt_zero i), a, b⟩
-- the walk to its end
theorem wk_goI {S : PSt} {W : Nat} (sh : ps_sh S) : ∀ (f : Nat) (l : List (Int × Int)) (O : WKt), wk_in S W l O → W < f + O.1 → wk_in S W [] (wk_go S f l O)
  | 0, l, O, I, h => by
    exfalso
    have := I.2.2
    omega
  | f + 1, [], O, I, _ => I
  | f + 1, (v, u) :: l, O, I, h => wk_goI sh f _ _ (wk_onX sh I) (by show W < f + (O.1 + 1); omega)
theorem wk_allI {S : PSt} {f : Nat → Int} (sh : ps_sh S) (hf : hp_in S f) : wk_ok S (wk_all S f) ∧ (wk_all S f).1 = p_ws f 6 := by
  have L := p_wsL (f := f) 6
  have e : (2 : Nat) ^ 6 = 64 := by decide
  rw [e] at L
  obtain ⟨a, -, c⟩ := wk_goI sh 64 _ _ (wk_in0 hf) (by show p_ws f 6 < 64 + 0; omega)
  exact ⟨a, by have : (0 : Nat) + (wk_all S f).1 = p_ws f 6 := c; omega⟩
-- THE CLASS'S WALK
def wl_ok (h : MH) (wa : Nat) : Prop := ((h_k h wa).1 = 8 ∧ 16 ≤ wa ∧ wa < 16 + h_n h) ∧ (∀ k, k < 7 → (h_k h (h_r h wa k)).1 = 20 ∧ 16 ≤ h_r h wa k ∧ h_r h wa k < 16 + h_n h ∧ (63 : Int) ≤ ((h_k h (h_r h wa k)).2 : Int)) ∧ ∀ a b, a < 7 → b < 7 → a ≠ b → h_r h wa a ≠ h_r h wa b
theorem wl_ne {h : MH} {wa k : Nat} (ok : wl_ok h wa) (hk : k < 7) : h_r h wa k ≠ wa := fun z => by
  have a := (ok.2.1 k hk).1
  rw [z, ok.1.1] at a
  omega
def wl_of (h0 : MH) (H : Nat → Nat → Int) (wa : Nat) (S : PSt) (O : WKt) : Prop := H wa 8 = (O.1 : Int) ∧ ∀ i, i < O.1 → H (h_r h0 wa 0) i = O.2.1 i ∧ H (h_r h0 wa 1) i = 128 * ps_y S (O.2.1 i).toNat + ps_t S (O.2.1 i).toNat ∧ H (h_r h0 wa 2) i = O.2.2.1 i ∧ H (h_r h0 wa 3) i = O.2.2.2 i
def wl_st (h0 : MH) (H : Nat → Nat → Int) (wa : Nat) (l : List (Int × Int)) : Prop := H wa 9 = (l.length : Int) ∧ wk_st (H (h_r h0 wa 5)) (H (h_r h0 wa 6)) l.length = l
-- what a walk leaves as it was
def wl_fr (h0 : MH) (wa : Nat) (H0 H : Nat → Nat → Int) : Prop := ∀ a, a ≠ wa → (∀ k, k < 7 → a ≠ h_r h0 wa k) → H a = H0 a
section
variable {lv : List (Nat × Value)} {Q : Option Value → MH → Prop} {h0 h : MH} {H : Nat → Nat → Int}
theorem r_pu0 {wa : Nat} {v u : Int} (M : RX h0 h H) (e0 : m_lk lv 0 = some (.ref wa)) {lx1 : Int32} (e1 : m_lk lv 1 = some (.int lx1)) (lq1 : lx1.toInt = v) {lx2 : Int32} (e2 : m_lk lv 2 = some (.int lx2)) (lq2 : lx2.toInt = u) (t0 : 0 ≤ H wa 9) (ne5 : AN (h_r h0 wa 5) (wa)) (ne6 : AN (h_r h0 wa 6) (wa)) (ne65 : AN (h_r h0 wa 6) (h_r h0 wa 5)) (hk0 : (h_k h0 wa).1 = 8) (ha0 : (h_k h0 (h_r h0 wa 5)).1 = 20) (hl0 : 63 ≤ ((h_k h0 (h_r h0 wa 5)).2 : Int)) (hs0 : 16 ≤ h_r h0 wa 5) (ha1 : (h_k h0 (h_r h0 wa 6)).1 = 20) (hl1 : 63 ≤ ((h_k h0 (h_r h0 wa 6)).2 : Int)) (hs1 : 16 ≤ h_r h0 wa 6)
    (g0 : v = (-1) → Q none h)
    (g1 : v ≠ (-1) → H wa 9 ≥ 63 → Q none h)
    (g2 : ∀ h5 : MH, ∀ H5 : Nat → Nat → Int, H5 = m_u H (h_r h0 wa 5) (m_u (H (h_r h0 wa 5)) (H wa 9).toNat (v)) → ∀ h7 : MH, ∀ H7 : Nat → Nat → Int, H7 = m_u H5 (h_r h0 wa 6) (m_u (H5 (h_r h0 wa 6)) (H wa 9).toNat (u)) → ∀ h11 : MH, ∀ H11 : Nat → Nat → Int, H11 = m_u H7 wa (m_u (H7 wa) 9 ((H wa 9) + 1)) → RX h0 h11 H11 → v ≠ (-1) → H wa 9 < 63 → Q none h11)
    : HJ 75 0 lv [] h Q := by
  refine hI_il (k := 1) rfl e1 rfl ?_ -- 0
  refine hM_ic (n := (-1)) rfl (by decide) rfl (fun x1 q1 => ?_) -- 1
  refine hM_ceq (off := 42) (t := 44) rfl lq1 q1 (by decide) rfl (fun c2 => ?_) (fun c2 => ?_) -- 2
  · refine hI_rv rfl rfl ?_
    exact g0 c2
  · refine hI_al (k := 0) rfl e0 rfl ?_ -- 5
    refine hR_gi (c := 7) (k := 9) M hk0 rfl rfl rfl rfl (fun x2 q2 => ?_) -- 6
    have gb2 : -2147483648 ≤ H wa 9 ∧ H wa 9 ≤ 2147483647 := by rw [← q2]; exact g_iT _
    refine hM_bp (n := 63) rfl (by decide) rfl (fun x3 q3 => ?_) -- 9
    refine hM_cge (off := 33) (t := 44) rfl q2 q3 (by decide) rfl (fun c11 => ?_) (fun c11 => ?_) -- 11
    · refine hI_rv rfl rfl ?_
      exact g1 c2 c11
    · refine hI_al (k := 0) rfl e0 rfl ?_ -- 14
      refine hR_gr (c := 7) (k := 5) M hk0 rfl rfl rfl rfl ?_ -- 15
      refine hI_al (k := 0) rfl e0 rfl ?_ -- 18
      refine hR_gi (c := 7) (k := 9) M hk0 rfl rfl rfl rfl (fun x4 q4 => ?_) -- 19
      have gb4 : -2147483648 ≤ H wa 9 ∧ H wa 9 ≤ 2147483647 := by rw [← q4]; exact g_iT _
      refine hI_il (k := 1) rfl e1 rfl ?_ -- 22
      refine hR_is M hs0 ha0 q4 lq1 (by omega) (by omega) rfl rfl (fun h5 H5 f5 M5 => ?_) -- 23
      refine hI_al (k := 0) rfl e0 rfl ?_ -- 24
      refine hR_gr (c := 7) (k := 6) M5 hk0 rfl rfl rfl rfl ?_ -- 25
      refine hI_al (k := 0) rfl e0 rfl ?_ -- 28
      refine hR_gi (c := 7) (k := 9) M5 hk0 rfl rfl rfl rfl (fun x6 q6 => ?_) -- 29
      rw [show H5 wa 9 = H wa 9 by rw [f5, m_uN _ _ _ _ (Ne.symm ne5)]] at q6
      have gb6 : -2147483648 ≤ H wa 9 ∧ H wa 9 ≤ 2147483647 := by rw [← q6]; exact g_iT _
      refine hI_il (k := 2) rfl e2 rfl ?_ -- 32
      refine hR_is M5 hs1 ha1 q6 lq2 (by omega) (by omega) rfl rfl (fun h7 H7 f7 M7 => ?_) -- 33
      refine hI_al (k := 0) rfl e0 rfl ?_ -- 34
      refine hI_dup rfl rfl rfl ?_ -- 35
      refine hR_gi (c := 7) (k := 9) M7 hk0 rfl rfl rfl rfl (fun x8 q8 => ?_) -- 36
      rw [show H7 wa 9 = H wa 9 by rw [f7, m_uN _ _ _ _ (Ne.symm ne6), f5, m_uN _ _ _ _ (Ne.symm ne5)]] at q8
      have gb8 : -2147483648 ≤ H wa 9 ∧ H wa 9 ≤ 2147483647 := by rw [← q8]; exact g_iT _
      refine hM_ic (n := 1) rfl (by decide) rfl (fun x9 q9 => ?_) -- 39
      refine hM_add rfl q8 q9 (by omega) (by omega) rfl (fun x10 q10 => ?_) -- 40
      refine hR_pi (c := 7) (k := 9) M7 hk0 rfl rfl ⟨by decide, by decide +kernel, rfl⟩ q10 rfl (fun h11 H11 f11 M11 => ?_) -- 41
      refine hI_rv rfl rfl ?_
      exact g2 h5 H5 f5 h7 H7 f7 h11 H11 f11 M11 c2 c11
theorem r_lo0 {wa nd hp : Nat} (M : RX h0 h H) (e0 : m_lk lv 0 = some (.ref wa)) (e1 : m_lk lv 1 = some (.ref nd)) (e2 : m_lk lv 2 = some (.ref hp))  (hk0 : (h_k h0 wa).1 = 8)
    (g0 : ∀ h2 : MH, ∀ H2 : Nat → Nat → Int, H2 = m_u H wa (m_u (H wa) 8 (0)) → ∀ h4 : MH, ∀ H4 : Nat → Nat → Int, H4 = m_u H2 wa (m_u (H2 wa) 9 (0)) → ∀ x5 : Int32, x5.toInt = 5 → ∀ lv6 : List (Nat × Value), RX h0 h4 H4 → m_lk lv6 0 = some (.ref wa) → m_lk lv6 1 = some (.ref nd) → m_lk lv6 2 = some (.ref hp) → m_lk lv6 3 = some (.int x5) → HJ 74 12 lv6 [] h4 Q)
    : HJ 74 0 lv [] h Q := by
  refine hI_al (k := 0) rfl e0 rfl ?_ -- 0
  refine hM_ic (n := 0) rfl (by decide) rfl (fun x1 q1 => ?_) -- 1
  refine hR_pi (c := 7) (k := 8) M hk0 rfl rfl ⟨by decide, by decide +kernel, rfl⟩ q1 rfl (fun h2 H2 f2 M2 => ?_) -- 2
  refine hI_al (k := 0) rfl e0 rfl ?_ -- 5
  refine hM_ic (n := 0) rfl (by decide) rfl (fun x3 q3 => ?_) -- 6
  refine hR_pi (c := 7) (k := 9) M2 hk0 rfl rfl ⟨by decide, by decide +kernel, rfl⟩ q3 rfl (fun h4 H4 f4 M4 => ?_) -- 7
  refine hM_ic (n := 5) rfl (by decide) rfl (fun x5 q5 => ?_) -- 10
  refine hM_si (k := 3) rfl (by decide +kernel) rfl (fun lv6 e6_3 u6 => ?_) -- 11
  have e6_0 := u6 0 _ (by decide) (Or.inl rfl) e0
  have e6_1 := u6 1 _ (by decide) (Or.inl rfl) e1
  have e6_2 := u6 2 _ (by decide) (Or.inl rfl) e2
  exact g0 h2 H2 f2 h4 H4 f4 x5 q5 lv6 M4 e6_0 e6_1 e6_2 e6_3
theorem r_lo12 {wa nd hp : Nat} {r : Int} (M : RX h0 h H) (e0 : m_lk lv 0 = some (.ref wa)) (e1 : m_lk lv 1 = some (.ref nd)) (e2 : m_lk lv 2 = some (.ref hp)) {lx3 : Int32} (e3 : m_lk lv 3 = some (.int lx3)) (lq3 : lx3.toInt = r) (r1 : r ≤ 5) (ha0 : (h_k h0 hp).1 = 20) (hl0 : 6 ≤ ((h_k h0 hp).2 : Int)) (hs0 : 16 ≤ wa) (hk0 : (h_k h0 wa).1 = 8)
    (g0 : r < 0 → HJ 74 30 lv [] h Q)
    (g1 : ∀ x1 : Int32, x1.toInt = H hp (r).toNat → ∀ x2 : Int32, x2.toInt = (-1) → r ≥ 0 → HJ 75 0 (lv_args 0 [.ref wa, .int x1, .int x2]) [] h (fun v h' => HJ 74 24 lv (v.toList ++ []) h' Q))
    : HJ 74 12 lv [] h Q := by
  refine hI_il (k := 3) rfl e3 rfl ?_ -- 12
  refine hM_zlt (off := 17) (t := 30) rfl lq3 (by decide) rfl (fun c13 => ?_) (fun c13 => ?_) -- 13
  · exact g0 c13
  · refine hI_al (k := 0) rfl e0 rfl ?_ -- 16
    refine hI_al (k := 2) rfl e2 rfl ?_ -- 17
    refine hI_il (k := 3) rfl e3 rfl ?_ -- 18
    refine hR_ia M ha0 lq3 (by omega) (by omega) rfl rfl (fun x1 q1 => ?_) -- 19
    have gb1 : -2147483648 ≤ H hp (r).toNat ∧ H hp (r).toNat ≤ 2147483647 := by rw [← q1]; exact g_iT _
    refine hM_ic (n := (-1)) rfl (by decide) rfl (fun x2 q2 => ?_) -- 20
    refine HJ.call (j := 75) (as := [.ref wa, .int x1, .int x2]) (rr := []) (pc' := 24) (m_cR (kc := 7) rfl rfl (by decide +kernel) rfl rfl rfl ⟨rfl, by decide +kernel, by decide +kernel⟩ (by decide) hs0 (by rw [M.2.1]; exact hk0)) (by show 3 ≤ m_lc 75; decide +kernel) ?_ -- 21
    exact g1 x1 q1 x2 q2 c13
theorem r_lo24 {wa nd hp : Nat} {r : Int} (M : RX h0 h H) (e0 : m_lk lv 0 = some (.ref wa)) (e1 : m_lk lv 1 = some (.ref nd)) (e2 : m_lk lv 2 = some (.ref hp)) {lx3 : Int32} (e3 : m_lk lv 3 = some (.int lx3)) (lq3 : lx3.toInt = r) (r0 : 0 ≤ r) (r1 : r ≤ 5)
    (g0 : ∀ x1 : Int32, x1.toInt = r + (-1) → ∀ lv1 : List (Nat × Value), m_lk lv1 0 = some (.ref wa) → m_lk lv1 1 = some (.ref nd) → m_lk lv1 2 = some (.ref hp) → m_lk lv1 3 = some (.int x1) → HJ 74 12 lv1 [] h Q)
    : HJ 74 24 lv [] h Q := by
  refine hM_inc (k := 3) (z := (-1)) rfl e3 lq3 (by decide) (by omega) (by omega) (by decide +kernel) rfl (fun lv1 x1 q1 e1_3 u1 => ?_) -- 24
  have e1_0 := u1 0 _ (by decide) (Or.inl rfl) e0
  have e1_1 := u1 1 _ (by decide) (Or.inl rfl) e1
  have e1_2 := u1 2 _ (by decide) (Or.inl rfl) e2
  refine hI_go (pc' := 12) (off := (-15)) rfl (by decide) ?_ -- 27
  exact g0 x1 q1 lv1 e1_0 e1_1 e1_2 e1_3
theorem r_lo30 {wa nd hp : Nat} (M : RX h0 h H) (e0 : m_lk lv 0 = some (.ref wa)) (e1 : m_lk lv 1 = some (.ref nd)) (e2 : m_lk lv 2 = some (.ref hp)) (t0 : 0 ≤ H wa 9) (t1 : H wa 9 ≤ 63) (w0 : 0 ≤ H wa 8) (ne0 : AN (h_r h0 wa 0) (wa)) (ne1 : AN (h_r h0 wa 1) (wa)) (ne2 : AN (h_r h0 wa 2) (wa)) (ne3 : AN (h_r h0 wa 3) (wa)) (ne5 : AN (h_r h0 wa 5) (wa)) (ne6 : AN (h_r h0 wa 6) (wa)) (neN : AN (nd) (wa)) (ne01 : AN (h_r h0 wa 0) (h_r h0 wa 1)) (ne02 : AN (h_r h0 wa 0) (h_r h0 wa 2)) (ne03 : AN (h_r h0 wa 0) (h_r h0 wa 3)) (ne05 : AN (h_r h0 wa 0) (h_r h0 wa 5)) (ne06 : AN (h_r h0 wa 0) (h_r h0 wa 6)) (ne12 : AN (h_r h0 wa 1) (h_r h0 wa 2)) (ne13 : AN (h_r h0 wa 1) (h_r h0 wa 3)) (ne15 : AN (h_r h0 wa 1) (h_r h0 wa 5)) (ne16 : AN (h_r h0 wa 1) (h_r h0 wa 6)) (ne23 : AN (h_r h0 wa 2) (h_r h0 wa 3)) (ne25 : AN (h_r h0 wa 2) (h_r h0 wa 5)) (ne26 : AN (h_r h0 wa 2) (h_r h0 wa 6)) (ne35 : AN (h_r h0 wa 3) (h_r h0 wa 5)) (ne36 : AN (h_r h0 wa 3) (h_r h0 wa 6)) (ne56 : AN (h_r h0 wa 5) (h_r h0 wa 6)) (hk0 : (h_k h0 wa).1 = 8) (ha0 : (h_k h0 (h_r h0 wa 5)).1 = 20) (hl0 : 63 ≤ ((h_k h0 (h_r h0 wa 5)).2 : Int)) (ha1 : (h_k h0 (h_r h0 wa 6)).1 = 20) (hl1 : 63 ≤ ((h_k h0 (h_r h0 wa 6)).2 : Int)) (ha2 : (h_k h0 (h_r h0 wa 0)).1 = 20) (hl2 : 63 ≤ ((h_k h0 (h_r h0 wa 0)).2 : Int)) (hs0 : 16 ≤ h_r h0 wa 0) (hs1 : 16 ≤ nd) (hk1 : (h_k h0 nd).1 = 3)
    (g0 : H wa 9 ≤ 0 → Q none h)
    (g1 : H wa 9 > 0 → H wa 8 ≥ 63 → Q none h)
    (g2 : ∀ h7 : MH, ∀ H7 : Nat → Nat → Int, H7 = m_u H wa (m_u (H wa) 9 ((H wa 9) - 1)) → ∀ x9 : Int32, x9.toInt = H (h_r h0 wa 5) (((H wa 9) - 1)).toNat → ∀ x12 : Int32, x12.toInt = H (h_r h0 wa 6) (((H wa 9) - 1)).toNat → ∀ x14 : Int32, x14.toInt = H wa 8 → ∀ h19 : MH, ∀ H19 : Nat → Nat → Int, H19 = m_u H7 wa (m_u (H7 wa) 8 ((H wa 8) + 1)) → ∀ h20 : MH, ∀ H20 : Nat → Nat → Int, H20 = m_u H19 (h_r h0 wa 0) (m_u (H19 (h_r h0 wa 0)) (H wa 8).toNat (H (h_r h0 wa 5) (((H wa 9) - 1)).toNat)) → ∀ lv15 : List (Nat × Value), RX h0 h20 H20 → m_lk lv15 0 = some (.ref wa) → m_lk lv15 1 = some (.ref nd) → m_lk lv15 2 = some (.ref hp) → m_lk lv15 3 = some (.int x9) → m_lk lv15 4 = some (.int x12) → m_lk lv15 5 = some (.int x14) → H wa 9 > 0 → H wa 8 < 63 → HJ 66 0 (lv_args 0 [.ref nd, .int x9]) [] h20 (fun v h' => HJ 74 112 lv15 (v.toList ++ [.int x14, .ref (h_r h0 wa 1)]) h' Q))
    : HJ 74 30 lv [] h Q := by
  refine hI_al (k := 0) rfl e0 rfl ?_ -- 30
  refine hR_gi (c := 7) (k := 9) M hk0 rfl rfl rfl rfl (fun x1 q1 => ?_) -- 31
  have gb1 : -2147483648 ≤ H wa 9 ∧ H wa 9 ≤ 2147483647 := by rw [← q1]; exact g_iT _
  refine hM_zle (off := 150) (t := 184) rfl q1 (by decide) rfl (fun c34 => ?_) (fun c34 => ?_) -- 34
  · refine hI_rv rfl rfl ?_
    exact g0 c34
  · refine hI_al (k := 0) rfl e0 rfl ?_ -- 37
    refine hR_gi (c := 7) (k := 8) M hk0 rfl rfl rfl rfl (fun x2 q2 => ?_) -- 38
    have gb2 : -2147483648 ≤ H wa 8 ∧ H wa 8 ≤ 2147483647 := by rw [← q2]; exact g_iT _
    refine hM_bp (n := 63) rfl (by decide) rfl (fun x3 q3 => ?_) -- 41
    refine hM_cge (off := 141) (t := 184) rfl q2 q3 (by decide) rfl (fun c43 => ?_) (fun c43 => ?_) -- 43
    · refine hI_rv rfl rfl ?_
      exact g1 c34 c43
    · refine hI_al (k := 0) rfl e0 rfl ?_ -- 46
      refine hI_dup rfl rfl rfl ?_ -- 47
      refine hR_gi (c := 7) (k := 9) M hk0 rfl rfl rfl rfl (fun x4 q4 => ?_) -- 48
      have gb4 : -2147483648 ≤ H wa 9 ∧ H wa 9 ≤ 2147483647 := by rw [← q4]; exact g_iT _
      refine hM_ic (n := 1) rfl (by decide) rfl (fun x5 q5 => ?_) -- 51
      refine hM_sub rfl q4 q5 (by omega) (by omega) rfl (fun x6 q6 => ?_) -- 52
      refine hR_pi (c := 7) (k := 9) M hk0 rfl rfl ⟨by decide, by decide +kernel, rfl⟩ q6 rfl (fun h7 H7 f7 M7 => ?_) -- 53
      refine hI_al (k := 0) rfl e0 rfl ?_ -- 56
      refine hR_gr (c := 7) (k := 5) M7 hk0 rfl rfl rfl rfl ?_ -- 57
      refine hI_al (k := 0) rfl e0 rfl ?_ -- 60
      refine hR_gi (c := 7) (k := 9) M7 hk0 rfl rfl rfl rfl (fun x8 q8 => ?_) -- 61
      rw [show H7 wa 9 = ((H wa 9) - 1) by rw [f7, m_uE, m_uE]] at q8
      have gb8 : -2147483648 ≤ ((H wa 9) - 1) ∧ ((H wa 9) - 1) ≤ 2147483647 := by rw [← q8]; exact g_iT _
      refine hR_ia M7 ha0 q8 (by omega) (by omega) rfl rfl (fun x9 q9 => ?_) -- 64
      rw [show H7 (h_r h0 wa 5) (((H wa 9) - 1)).toNat = H (h_r h0 wa 5) (((H wa 9) - 1)).toNat by rw [f7, m_uN _ _ _ _ ne5]] at q9
      have gb9 : -2147483648 ≤ H (h_r h0 wa 5) (((H wa 9) - 1)).toNat ∧ H (h_r h0 wa 5) (((H wa 9) - 1)).toNat ≤ 2147483647 := by rw [← q9]; exact g_iT _
      refine hM_si (k := 3) rfl (by decide +kernel) rfl (fun lv10 e10_3 u10 => ?_) -- 65
      have e10_0 := u10 0 _ (by decide) (Or.inl rfl) e0
      have e10_1 := u10 1 _ (by decide) (Or.inl rfl) e1
      have e10_2 := u10 2 _ (by decide) (Or.inl rfl) e2
      refine hI_al (k := 0) rfl e10_0 rfl ?_ -- 66
      refine hR_gr (c := 7) (k := 6) M7 hk0 rfl rfl rfl rfl ?_ -- 67
      refine hI_al (k := 0) rfl e10_0 rfl ?_ -- 70
      refine hR_gi (c := 7) (k := 9) M7 hk0 rfl rfl rfl rfl (fun x11 q11 => ?_) -- 71
      rw [show H7 wa 9 = ((H wa 9) - 1) by rw [f7, m_uE, m_uE]] at q11
      have gb11 : -2147483648 ≤ ((H wa 9) - 1) ∧ ((H wa 9) - 1) ≤ 2147483647 := by rw [← q11]; exact g_iT _
      refine hR_ia M7 ha1 q11 (by omega) (by omega) rfl rfl (fun x12 q12 => ?_) -- 74
      rw [show H7 (h_r h0 wa 6) (((H wa 9) - 1)).toNat = H (h_r h0 wa 6) (((H wa 9) - 1)).toNat by rw [f7, m_uN _ _ _ _ ne6]] at q12
      have gb12 : -2147483648 ≤ H (h_r h0 wa 6) (((H wa 9) - 1)).toNat ∧ H (h_r h0 wa 6) (((H wa 9) - 1)).toNat ≤ 2147483647 := by rw [← q12]; exact g_iT _
      refine hM_si2 (k := 4) rfl (by decide +kernel) rfl (fun lv13 e13_4 u13 => ?_) -- 75
      have e13_0 := u13 0 _ (by decide) (Or.inl rfl) e10_0
      have e13_1 := u13 1 _ (by decide) (Or.inl rfl) e10_1
      have e13_2 := u13 2 _ (by decide) (Or.inl rfl) e10_2
      have e13_3 := u13 3 _ (by decide) (Or.inl rfl) e10_3
      refine hI_al (k := 0) rfl e13_0 rfl ?_ -- 77
      refine hR_gi (c := 7) (k := 8) M7 hk0 rfl rfl rfl rfl (fun x14 q14 => ?_) -- 78
      rw [show H7 wa 8 = H wa 8 by rw [f7, m_uE, m_uN _ _ _ _ (by decide)]] at q14
      have gb14 : -2147483648 ≤ H wa 8 ∧ H wa 8 ≤ 2147483647 := by rw [← q14]; exact g_iT _
      refine hM_si2 (k := 5) rfl (by decide +kernel) rfl (fun lv15 e15_5 u15 => ?_) -- 81
      have e15_0 := u15 0 _ (by decide) (Or.inl rfl) e13_0
      have e15_1 := u15 1 _ (by decide) (Or.inl rfl) e13_1
      have e15_2 := u15 2 _ (by decide) (Or.inl rfl) e13_2
      have e15_3 := u15 3 _ (by decide) (Or.inl rfl) e13_3
      have e15_4 := u15 4 _ (by decide) (Or.inl rfl) e13_4
      refine hI_al (k := 0) rfl e15_0 rfl ?_ -- 83
      refine hI_dup rfl rfl rfl ?_ -- 84
      refine hR_gi (c := 7) (k := 8) M7 hk0 rfl rfl rfl rfl (fun x16 q16 => ?_) -- 85
      rw [show H7 wa 8 = H wa 8 by rw [f7, m_uE, m_uN _ _ _ _ (by decide)]] at q16
      have gb16 : -2147483648 ≤ H wa 8 ∧ H wa 8 ≤ 2147483647 := by rw [← q16]; exact g_iT _
      refine hM_ic (n := 1) rfl (by decide) rfl (fun x17 q17 => ?_) -- 88
      refine hM_add rfl q16 q17 (by omega) (by omega) rfl (fun x18 q18 => ?_) -- 89
      refine hR_pi (c := 7) (k := 8) M7 hk0 rfl rfl ⟨by decide, by decide +kernel, rfl⟩ q18 rfl (fun h19 H19 f19 M19 => ?_) -- 90
      refine hI_al (k := 0) rfl e15_0 rfl ?_ -- 93
      refine hR_gr (c := 7) (k := 0) M19 hk0 rfl rfl rfl rfl ?_ -- 94
      refine hI_il2 (k := 5) rfl e15_5 rfl ?_ -- 97
      refine hI_il (k := 3) rfl e15_3 rfl ?_ -- 99
      refine hR_is M19 hs0 ha2 q14 q9 (by omega) (by omega) rfl rfl (fun h20 H20 f20 M20 => ?_) -- 100
      refine hI_al (k := 0) rfl e15_0 rfl ?_ -- 101
      refine hR_gr (c := 7) (k := 1) M20 hk0 rfl rfl rfl rfl ?_ -- 102
      refine hI_il2 (k := 5) rfl e15_5 rfl ?_ -- 105
      refine hI_al (k := 1) rfl e15_1 rfl ?_ -- 107
      refine hI_il (k := 3) rfl e15_3 rfl ?_ -- 108
      refine HJ.call (j := 66) (as := [.ref nd, .int x9]) (rr := [.int x14, .ref (h_r h0 wa 1)]) (pc' := 112) (m_cR (kc := 2) rfl rfl (by decide +kernel) rfl rfl rfl ⟨rfl, by decide +kernel, by decide +kernel⟩ (by decide) hs1 (by rw [M20.2.1]; exact hk1)) (by show 2 ≤ m_lc 66; decide +kernel) ?_ -- 109
      exact g2 h7 H7 f7 x9 q9 x12 q12 x14 q14 h19 H19 f19 h20 H20 f20 lv15 M20 e15_0 e15_1 e15_2 e15_3 e15_4 e15_5 c34 c43
theorem r_lo112 {wa nd hp : Nat} {v u w p : Int} (M : RX h0 h H) (e0 : m_lk lv 0 = some (.ref wa)) (e1 : m_lk lv 1 = some (.ref nd)) (e2 : m_lk lv 2 = some (.ref hp)) {lx3 : Int32} (e3 : m_lk lv 3 = some (.int lx3)) (lq3 : lx3.toInt = v) {lx4 : Int32} (e4 : m_lk lv 4 = some (.int lx4)) (lq4 : lx4.toInt = u) {lx5 : Int32} (e5 : m_lk lv 5 = some (.int lx5)) (lq5 : lx5.toInt = w) {sx1 : Int32} (sq1 : sx1.toInt = w) {sx2 : Int32} (sq2 : sx2.toInt = p) (w0 : 0 ≤ w) (w1 : w < 63) (u0 : -1 ≤ u) (u1 : u < w) (d0 : u ≠ -1 → 0 ≤ H (h_r h0 wa 3) u.toNat ∧ H (h_r h0 wa 3) u.toNat ≤ 62) (ne0 : AN (h_r h0 wa 0) (wa)) (ne1 : AN (h_r h0 wa 1) (wa)) (ne2 : AN (h_r h0 wa 2) (wa)) (ne3 : AN (h_r h0 wa 3) (wa)) (ne5 : AN (h_r h0 wa 5) (wa)) (ne6 : AN (h_r h0 wa 6) (wa)) (neN : AN (nd) (wa)) (ne01 : AN (h_r h0 wa 0) (h_r h0 wa 1)) (ne02 : AN (h_r h0 wa 0) (h_r h0 wa 2)) (ne03 : AN (h_r h0 wa 0) (h_r h0 wa 3)) (ne05 : AN (h_r h0 wa 0) (h_r h0 wa 5)) (ne06 : AN (h_r h0 wa 0) (h_r h0 wa 6)) (ne12 : AN (h_r h0 wa 1) (h_r h0 wa 2)) (ne13 : AN (h_r h0 wa 1) (h_r h0 wa 3)) (ne15 : AN (h_r h0 wa 1) (h_r h0 wa 5)) (ne16 : AN (h_r h0 wa 1) (h_r h0 wa 6)) (ne23 : AN (h_r h0 wa 2) (h_r h0 wa 3)) (ne25 : AN (h_r h0 wa 2) (h_r h0 wa 5)) (ne26 : AN (h_r h0 wa 2) (h_r h0 wa 6)) (ne35 : AN (h_r h0 wa 3) (h_r h0 wa 5)) (ne36 : AN (h_r h0 wa 3) (h_r h0 wa 6)) (ne56 : AN (h_r h0 wa 5) (h_r h0 wa 6)) (ha0 : (h_k h0 (h_r h0 wa 1)).1 = 20) (hl0 : 63 ≤ ((h_k h0 (h_r h0 wa 1)).2 : Int)) (hs0 : 16 ≤ h_r h0 wa 1) (hk0 : (h_k h0 wa).1 = 8) (ha1 : (h_k h0 (h_r h0 wa 2)).1 = 20) (hl1 : 63 ≤ ((h_k h0 (h_r h0 wa 2)).2 : Int)) (hs1 : 16 ≤ h_r h0 wa 2) (ha2 : (h_k h0 (h_r h0 wa 3)).1 = 20) (hl2 : 63 ≤ ((h_k h0 (h_r h0 wa 3)).2 : Int)) (hs2 : 16 ≤ h_r h0 wa 3) (hs3 : 16 ≤ nd) (hk1 : (h_k h0 nd).1 = 3)
    (g0 : ∀ h1 : MH, ∀ H1 : Nat → Nat → Int, H1 = m_u H (h_r h0 wa 1) (m_u (H (h_r h0 wa 1)) (w).toNat (p)) → ∀ h2 : MH, ∀ H2 : Nat → Nat → Int, H2 = m_u H1 (h_r h0 wa 2) (m_u (H1 (h_r h0 wa 2)) (w).toNat (u)) → ∀ h7 : MH, ∀ H7 : Nat → Nat → Int, H7 = m_u H2 (h_r h0 wa 3) (m_u (H2 (h_r h0 wa 3)) (w).toNat ((H (h_r h0 wa 3) (u).toNat) + 1)) → RX h0 h7 H7 → u ≠ (-1) → HJ 67 0 (lv_args 0 [.ref nd, .int lx3]) [] h7 (fun v h' => HJ 74 153 lv (v.toList ++ []) h' Q))
    (g1 : ∀ h1 : MH, ∀ H1 : Nat → Nat → Int, H1 = m_u H (h_r h0 wa 1) (m_u (H (h_r h0 wa 1)) (w).toNat (p)) → ∀ h2 : MH, ∀ H2 : Nat → Nat → Int, H2 = m_u H1 (h_r h0 wa 2) (m_u (H1 (h_r h0 wa 2)) (w).toNat (u)) → ∀ h9 : MH, ∀ H9 : Nat → Nat → Int, H9 = m_u H2 (h_r h0 wa 3) (m_u (H2 (h_r h0 wa 3)) (w).toNat (0)) → RX h0 h9 H9 → u = (-1) → HJ 67 0 (lv_args 0 [.ref nd, .int lx3]) [] h9 (fun v h' => HJ 74 153 lv (v.toList ++ []) h' Q))
    : HJ 74 112 lv [.int sx2, .int sx1, .ref (h_r h0 wa 1)] h Q := by
  refine hR_is M hs0 ha0 sq1 sq2 (by omega) (by omega) rfl rfl (fun h1 H1 f1 M1 => ?_) -- 112
  refine hI_al (k := 0) rfl e0 rfl ?_ -- 113
  refine hR_gr (c := 7) (k := 2) M1 hk0 rfl rfl rfl rfl ?_ -- 114
  refine hI_il2 (k := 5) rfl e5 rfl ?_ -- 117
  refine hI_il2 (k := 4) rfl e4 rfl ?_ -- 119
  refine hR_is M1 hs1 ha1 lq5 lq4 (by omega) (by omega) rfl rfl (fun h2 H2 f2 M2 => ?_) -- 121
  refine hI_al (k := 0) rfl e0 rfl ?_ -- 122
  refine hR_gr (c := 7) (k := 3) M2 hk0 rfl rfl rfl rfl ?_ -- 123
  refine hI_il2 (k := 5) rfl e5 rfl ?_ -- 126
  refine hI_il2 (k := 4) rfl e4 rfl ?_ -- 128
  refine hM_ic (n := (-1)) rfl (by decide) rfl (fun x3 q3 => ?_) -- 130
  refine hM_cne (off := 7) (t := 138) rfl lq4 q3 (by decide) rfl (fun c131 => ?_) (fun c131 => ?_) -- 131
  · refine hI_al (k := 0) rfl e0 rfl ?_ -- 138
    refine hR_gr (c := 7) (k := 3) M2 hk0 rfl rfl rfl rfl ?_ -- 139
    refine hI_il2 (k := 4) rfl e4 rfl ?_ -- 142
    refine hR_ia M2 ha2 lq4 (by omega) (by omega) rfl rfl (fun x4 q4 => ?_) -- 144
    rw [show H2 (h_r h0 wa 3) (u).toNat = H (h_r h0 wa 3) (u).toNat by rw [f2, m_uN _ _ _ _ (Ne.symm ne23), f1, m_uN _ _ _ _ (Ne.symm ne13)]] at q4
    have gb4 : -2147483648 ≤ H (h_r h0 wa 3) (u).toNat ∧ H (h_r h0 wa 3) (u).toNat ≤ 2147483647 := by rw [← q4]; exact g_iT _
    refine hM_ic (n := 1) rfl (by decide) rfl (fun x5 q5 => ?_) -- 145
    refine hM_add rfl q4 q5 (by omega) (by omega) rfl (fun x6 q6 => ?_) -- 146
    refine hR_is M2 hs2 ha2 lq5 q6 (by omega) (by omega) rfl rfl (fun h7 H7 f7 M7 => ?_) -- 147
    refine hI_al (k := 1) rfl e1 rfl ?_ -- 148
    refine hI_il (k := 3) rfl e3 rfl ?_ -- 149
    refine HJ.call (j := 67) (as := [.ref nd, .int lx3]) (rr := []) (pc' := 153) (m_cR (kc := 2) rfl rfl (by decide +kernel) rfl rfl rfl ⟨rfl, by decide +kernel, by decide +kernel⟩ (by decide) hs3 (by rw [M7.2.1]; exact hk1)) (by show 2 ≤ m_lc 67; decide +kernel) ?_ -- 150
    exact g0 h1 H1 f1 h2 H2 f2 h7 H7 f7 M7 c131
  · refine hM_ic (n := 0) rfl (by decide) rfl (fun x8 q8 => ?_) -- 134
    refine hI_go (pc' := 147) (off := 12) rfl (by decide) ?_ -- 135
    refine hR_is M2 hs2 ha2 lq5 q8 (by omega) (by omega) rfl rfl (fun h9 H9 f9 M9 => ?_) -- 147
    refine hI_al (k := 1) rfl e1 rfl ?_ -- 148
    refine hI_il (k := 3) rfl e3 rfl ?_ -- 149
    refine HJ.call (j := 67) (as := [.ref nd, .int lx3]) (rr := []) (pc' := 153) (m_cR (kc := 2) rfl rfl (by decide +kernel) rfl rfl rfl ⟨rfl, by decide +kernel, by decide +kernel⟩ (by decide) hs3 (by rw [M9.2.1]; exact hk1)) (by show 2 ≤ m_lc 67; decide +kernel) ?_ -- 150
    exact g1 h1 H1 f1 h2 H2 f2 h9 H9 f9 M9 c131
theorem r_lo153 {wa nd hp : Nat} {v u w k : Int} (M : RX h0 h H) (e0 : m_lk lv 0 = some (.ref wa)) (e1 : m_lk lv 1 = some (.ref nd)) (e2 : m_lk lv 2 = some (.ref hp)) {lx3 : Int32} (e3 : m_lk lv 3 = some (.int lx3)) (lq3 : lx3.toInt = v) {lx4 : Int32} (e4 : m_lk lv 4 = some (.int lx4)) (lq4 : lx4.toInt = u) {lx5 : Int32} (e5 : m_lk lv 5 = some (.int lx5)) (lq5 : lx5.toInt = w) {sx0 : Int32} (sq0 : sx0.toInt = k) (k0 : 0 ≤ k) (k1 : k ≤ 6)
    (g0 : ∀ x2 : Int32, x2.toInt = k - 1 → ∀ lv3 : List (Nat × Value), m_lk lv3 0 = some (.ref wa) → m_lk lv3 1 = some (.ref nd) → m_lk lv3 2 = some (.ref hp) → m_lk lv3 3 = some (.int lx3) → m_lk lv3 4 = some (.int lx4) → m_lk lv3 5 = some (.int lx5) → m_lk lv3 6 = some (.int x2) → HJ 74 157 lv3 [] h Q)
    : HJ 74 153 lv [.int sx0] h Q := by
  refine hM_ic (n := 1) rfl (by decide) rfl (fun x1 q1 => ?_) -- 153
  refine hM_sub rfl sq0 q1 (by omega) (by omega) rfl (fun x2 q2 => ?_) -- 154
  refine hM_si2 (k := 6) rfl (by decide +kernel) rfl (fun lv3 e3_6 u3 => ?_) -- 155
  have e3_0 := u3 0 _ (by decide) (Or.inl rfl) e0
  have e3_1 := u3 1 _ (by decide) (Or.inl rfl) e1
  have e3_2 := u3 2 _ (by decide) (Or.inl rfl) e2
  have e3_3 := u3 3 _ (by decide) (Or.inl rfl) e3
  have e3_4 := u3 4 _ (by decide) (Or.inl rfl) e4
  have e3_5 := u3 5 _ (by decide) (Or.inl rfl) e5
  exact g0 x2 q2 lv3 e3_0 e3_1 e3_2 e3_3 e3_4 e3_5 e3_6
theorem r_lo157 {wa nd hp : Nat} {v u w i : Int} (M : RX h0 h H) (e0 : m_lk lv 0 = some (.ref wa)) (e1 : m_lk lv 1 = some (.ref nd)) (e2 : m_lk lv 2 = some (.ref hp)) {lx3 : Int32} (e3 : m_lk lv 3 = some (.int lx3)) (lq3 : lx3.toInt = v) {lx4 : Int32} (e4 : m_lk lv 4 = some (.int lx4)) (lq4 : lx4.toInt = u) {lx5 : Int32} (e5 : m_lk lv 5 = some (.int lx5)) (lq5 : lx5.toInt = w) {lx6 : Int32} (e6 : m_lk lv 6 = some (.int lx6)) (lq6 : lx6.toInt = i) (i1 : i ≤ 5) (hs0 : 16 ≤ nd) (hk0 : (h_k h0 nd).1 = 3)
    (g0 : i < 0 → HJ 74 30 lv [] h Q)
    (g1 : i ≥ 0 → HJ 69 0 (lv_args 0 [.ref nd, .int lx3, .int lx6]) [] h (fun v h' => HJ 74 170 lv (v.toList ++ [.ref wa]) h' Q))
    : HJ 74 157 lv [] h Q := by
  refine hI_il2 (k := 6) rfl e6 rfl ?_ -- 157
  refine hM_zlt (off := 22) (t := 181) rfl lq6 (by decide) rfl (fun c159 => ?_) (fun c159 => ?_) -- 159
  · refine hI_go (pc' := 30) (off := (-151)) rfl (by decide) ?_ -- 181
    exact g0 c159
  · refine hI_al (k := 0) rfl e0 rfl ?_ -- 162
    refine hI_al (k := 1) rfl e1 rfl ?_ -- 163
    refine hI_il (k := 3) rfl e3 rfl ?_ -- 164
    refine hI_il2 (k := 6) rfl e6 rfl ?_ -- 165
    refine HJ.call (j := 69) (as := [.ref nd, .int lx3, .int lx6]) (rr := [.ref wa]) (pc' := 170) (m_cR (kc := 2) rfl rfl (by decide +kernel) rfl rfl rfl ⟨rfl, by decide +kernel, by decide +kernel⟩ (by decide) hs0 (by rw [M.2.1]; exact hk0)) (by show 3 ≤ m_lc 69; decide +kernel) ?_ -- 167
    exact g1 c159
theorem r_lo170 {wa nd hp : Nat} {v u w i c : Int} (M : RX h0 h H) (e0 : m_lk lv 0 = some (.ref wa)) (e1 : m_lk lv 1 = some (.ref nd)) (e2 : m_lk lv 2 = some (.ref hp)) {lx3 : Int32} (e3 : m_lk lv 3 = some (.int lx3)) (lq3 : lx3.toInt = v) {lx4 : Int32} (e4 : m_lk lv 4 = some (.int lx4)) (lq4 : lx4.toInt = u) {lx5 : Int32} (e5 : m_lk lv 5 = some (.int lx5)) (lq5 : lx5.toInt = w) {lx6 : Int32} (e6 : m_lk lv 6 = some (.int lx6)) (lq6 : lx6.toInt = i) {sx1 : Int32} (sq1 : sx1.toInt = c)  (hs0 : 16 ≤ wa) (hk0 : (h_k h0 wa).1 = 8)
    (g0 : HJ 75 0 (lv_args 0 [.ref wa, .int sx1, .int lx5]) [] h (fun v h' => HJ 74 175 lv (v.toList ++ []) h' Q))
    : HJ 74 170 lv [.int sx1, .ref wa] h Q := by
  refine hI_il2 (k := 5) rfl e5 rfl ?_ -- 170
  refine HJ.call (j := 75) (as := [.ref wa, .int sx1, .int lx5]) (rr := []) (pc' := 175) (m_cR (kc := 7) rfl rfl (by decide +kernel) rfl rfl rfl ⟨rfl, by decide +kernel, by decide +kernel⟩ (by decide) hs0 (by rw [M.2.1]; exact hk0)) (by show 3 ≤ m_lc 75; decide +kernel) ?_ -- 172
  exact g0 
theorem r_lo175 {wa nd hp : Nat} {v u w i : Int} (M : RX h0 h H) (e0 : m_lk lv 0 = some (.ref wa)) (e1 : m_lk lv 1 = some (.ref nd)) (e2 : m_lk lv 2 = some (.ref hp)) {lx3 : Int32} (e3 : m_lk lv 3 = some (.int lx3)) (lq3 : lx3.toInt = v) {lx4 : Int32} (e4 : m_lk lv 4 = some (.int lx4)) (lq4 : lx4.toInt = u) {lx5 : Int32} (e5 : m_lk lv 5 = some (.int lx5)) (lq5 : lx5.toInt = w) {lx6 : Int32} (e6 : m_lk lv 6 = some (.int lx6)) (lq6 : lx6.toInt = i) (i0 : 0 ≤ i) (i1 : i ≤ 5)
    (g0 : ∀ x1 : Int32, x1.toInt = i + (-1) → ∀ lv1 : List (Nat × Value), m_lk lv1 0 = some (.ref wa) → m_lk lv1 1 = some (.ref nd) → m_lk lv1 2 = some (.ref hp) → m_lk lv1 3 = some (.int lx3) → m_lk lv1 4 = some (.int lx4) → m_lk lv1 5 = some (.int lx5) → m_lk lv1 6 = some (.int x1) → HJ 74 157 lv1 [] h Q)
    : HJ 74 175 lv [] h Q := by
  refine hM_inc (k := 6) (z := (-1)) rfl e6 lq6 (by decide) (by omega) (by omega) (by decide +kernel) rfl (fun lv1 x1 q1 e1_6 u1 => ?_) -- 175
  have e1_0 := u1 0 _ (by decide) (Or.inl rfl) e0
  have e1_1 := u1 1 _ (by decide) (Or.inl rfl) e1
  have e1_2 := u1 2 _ (by decide) (Or.inl rfl) e2
  have e1_3 := u1 3 _ (by decide) (Or.inl rfl) e3
  have e1_4 := u1 4 _ (by decide) (Or.inl rfl) e4
  have e1_5 := u1 5 _ (by decide) (Or.inl rfl) e5
  refine hI_go (pc' := 157) (off := (-21)) rfl (by decide) ?_ -- 178
  exact g0 x1 q1 lv1 e1_0 e1_1 e1_2 e1_3 e1_4 e1_5 e1_6
theorem k_push {wa : Nat} {v u : Int} {l : List (Int × Int)} {xv xu : Int32} (M : RX h0 h H) (ok : wl_ok h0 wa) (qv : xv.toInt = v) (qu : xu.toInt = u) (vn : v ≠ -1) (T : wl_st h0 H wa l) (t1 : l.length < 63) (g : ∀ (h' : MH) (H' : Nat → Nat → Int), RX h0 h' H' → wl_st h0 H' wa ((v, u) :: l) → (∀ a, a ≠ wa → a ≠ h_r h0 wa 5 → a ≠ h_r h0 wa 6 → H' a = H a) → (∀ k, k ≠ 9 → H' wa k = H wa k) → Q none h') : HJ 75 0 (lv_args 0 [.ref wa, .int xv, .int xu]) [] h Q := by
  obtain ⟨T1, T2⟩ := T
  have n5 := wl_ne ok (show 5 < 7 by decide)
  have n6 := wl_ne ok (show 6 < 7 by decide)
  have n65 := ok.2.2 6 5 (by decide) (by decide) (by decide)
  obtain ⟨a5, b5, -, c5⟩ := ok.2.1 5 (by decide)
  obtain ⟨a6, b6, -, c6⟩ := ok.2.1 6 (by decide)
  refine r_pu0 M rfl rfl qv rfl qu (by omega) n5 n6 n65 ok.1.1 a5 c5 b5 a6 c6 b6 (fun c => absurd c vn) (fun _ c => absurd c (by omega)) (fun h5 H5 f5 h7 H7 f7 h11 H11 f11 M11 _ _ => ?_)
  rw [T1, Int.toNat_natCast] at f5 f7
  rw [T1] at f11
  have e5 : H11 (h_r h0 wa 5) = m_u (H (h_r h0 wa 5)) l.length v := by rw [f11, m_uN _ _ _ _ n5, f7, m_uN _ _ _ _ (Ne.symm n65), f5, m_uE]
  have e6 : H11 (h_r h0 wa 6) = m_u (H (h_r h0 wa 6)) l.length u := by rw [f11, m_uN _ _ _ _ n6, f7, m_uE, f5, m_uN _ _ _ _ n65]
  refine g h11 H11 M11 ⟨?_, ?_⟩ (fun a ha h5' h6' => ?_) (fun k hk => ?_)
  · rw [f11, m_uE, m_uE]
    show (l.length : Int) + 1 = ((l.length + 1 : Nat) : Int)
    omega
  · show (H11 (h_r h0 wa 5) l.length, H11 (h_r h0 wa 6) l.length) :: wk_st (H11 (h_r h0 wa 5)) (H11 (h_r h0 wa 6)) l.length = (v, u) :: l
    rw [e5, e6, m_uE, m_uE, wk_stC (P := H (h_r h0 wa 5)) (U := H (h_r h0 wa 6)) (fun j hj => ⟨m_uN _ _ _ _ (by omega), m_uN _ _ _ _ (by omega)⟩), T2]
  · rw [f11, m_uN _ _ _ _ ha, f7, m_uN _ _ _ _ h6', f5, m_uN _ _ _ _ h5']
  · rw [f11, m_uE, m_uN _ _ _ _ hk, f7, m_uN _ _ _ _ (Ne.symm n6), f5, m_uN _ _ _ _ (Ne.symm n5)]
theorem k_push0 {wa : Nat} {v : Int} {xv xu : Int32} (M : RX h0 h H) (qv : xv.toInt = v) (vn : v = -1) (g : Q none h) : HJ 75 0 (lv_args 0 [.ref wa, .int xv, .int xu]) [] h Q := by
  refine hI_il (k := 1) (x := xv) rfl rfl rfl ?_
  refine hM_ic (n := -1) rfl (by decide) rfl (fun x1 q1 => ?_)
  refine hM_ceq (t := 44) rfl qv q1 (by decide) rfl (fun _ => ?_) (fun c => absurd c (by omega))
  exact hI_rv rfl rfl g
-- the roots are put on the list
theorem l_loR {wa nd hp : Nat} {f : Nat → Int} {H0 : Nat → Nat → Int} (ok : wl_ok h0 wa) (hok : hp_ok h0 hp) (hx : hp ≠ wa ∧ ∀ k, k < 7 → hp ≠ h_r h0 wa k) (ef : hp6 (H0 hp) f) (g : ∀ (lv : List (Nat × Value)) (h' : MH) (H' : Nat → Nat → Int), RX h0 h' H' → wl_fr h0 wa H0 H' → wl_st h0 H' wa (wk_rs f 6 0) → H' wa 8 = 0 → m_lk lv 0 = some (.ref wa) → m_lk lv 1 = some (.ref nd) → m_lk lv 2 = some (.ref hp) → HJ 74 30 lv [] h' Q) : ∀ (r : Nat) (lv : List (Nat × Value)) (h : MH) (H : Nat → Nat → Int) (xr : Int32), r ≤ 6 → xr.toInt = (r : Int) - 1 → RX h0 h H → wl_fr h0 wa H0 H → wl_st h0 H wa (wk_rs f (6 - r) r) → H wa 8 = 0 → (wk_rs f (6 - r) r).length ≤ 6 - r → m_lk lv 0 = some (.ref wa) → m_lk lv 1 = some (.ref nd) → m_lk lv 2 = some (.ref hp) → m_lk lv 3 = some (.int xr) → HJ 74 12 lv [] h Q := by
  intro r
  induction r with
  | zero =>
    intro lv h H xr _ qr M fr T s0 _ e0 e1 e2 e3
    exact r_lo12 M e0 e1 e2 e3 qr (by omega) hok.1 hok.2.2 ok.1.2.1 ok.1.1 (fun _ => g lv h H M fr T s0 e0 e1 e2) (fun _ _ _ _ c => absurd c (by omega))
  | succ r ih =>
    intro lv h H xr h6 qr M fr T s0 L e0 e1 e2 e3
    refine r_lo12 M e0 e1 e2 e3 qr (by omega) hok.1 hok.2.2 ok.1.2.1 ok.1.1 (fun c => absurd c (by omega)) (fun x1 q1 x2 q2 _ => ?_)
    rw [show (((r + 1 : Nat) : Int) - 1).toNat = r by omega, fr hp hx.1 hx.2, ef r (by omega)] at q1
    have er : wk_rs f (6 - r) r = if f r = -1 then wk_rs f (6 - (r + 1)) (r + 1) else (f r, -1) :: wk_rs f (6 - (r + 1)) (r + 1) := by
      rw [show 6 - r = (6 - (r + 1)) + 1 by omega]
      rfl
    by_cases c : f r = -1
    · rw [if_pos c] at er
      refine k_push0 M q1 c ?_
      refine r_lo24 M e0 e1 e2 e3 qr (by omega) (by omega) (fun x3 q3 lv3 a0 a1 a2 a3 => ih lv3 h H x3 (by omega) (by omega) M fr (by rw [er]; exact T) s0 (by rw [er]; omega) a0 a1 a2 a3)
    · rw [if_neg c] at er
      refine k_push M ok q1 q2 c T (by omega) (fun h2 H2 M2 T2 p1 p2 => ?_)
      refine r_lo24 M2 e0 e1 e2 e3 qr (by omega) (by omega) (fun x3 q3 lv3 a0 a1 a2 a3 => ih lv3 h2 H2 x3 (by omega) (by omega) M2 (fun a ha hb => by rw [p1 a ha (hb 5 (by decide)) (hb 6 (by decide))]; exact fr a ha hb) (by rw [er]; exact T2) (by rw [p2 8 (by decide)]; exact s0) (by rw [er]; show (wk_rs f (6 - (r + 1)) (r + 1)).length + 1 ≤ _; omega) a0 a1 a2 a3)
-- what is right below a node goes on the list
theorem l_loC {wa nd hp : Nat} {S : PSt} {v u : Int} {w : Nat} {l : List (Int × Int)} {O : WKt} {H0 : Nat → Nat → Int} {xv xu xw : Int32} (ok : wl_ok h0 wa) (nok : nd_ok h0 nd (ps_n S)) (I : cs_of h0 H0 nd S) (nx : nd ≠ wa ∧ ∀ k, k < 7 → nd ≠ h_r h0 wa k) (cx : h_r h0 nd 0 ≠ wa ∧ ∀ k, k < 7 → h_r h0 nd 0 ≠ h_r h0 wa k) (qv : xv.toInt = v) (qu : xu.toInt = u) (qw : xw.toInt = (w : Int)) (v0 : 0 ≤ v) (v1 : v < (ps_n S : Int)) (sh : ps_sh S) (lim : l.length + (ps_k S v.toNat).toNat < 63) (g : ∀ (lv : List (Nat × Value)) (h' : MH) (H' : Nat → Nat → Int), RX h0 h' H' → wl_fr h0 wa H0 H' → wl_st h0 H' wa (wk_ch S v w (ps_k S v.toNat).toNat ++ l) → wl_of h0 H' wa S O → m_lk lv 0 = some (.ref wa) → m_lk lv 1 = some (.ref nd) → m_lk lv 2 = some (.ref hp) → HJ 74 30 lv [] h' Q) : ∀ (e j : Nat) (lv : List (Nat × Value)) (h : MH) (H : Nat → Nat → Int) (xj : Int32), j + e = (ps_k S v.toNat).toNat → xj.toInt = (e : Int) - 1 → RX h0 h H → wl_fr h0 wa H0 H → wl_st h0 H wa (wk_ch S v w j ++ l) → wl_of h0 H wa S O → m_lk lv 0 = some (.ref wa) → m_lk lv 1 = some (.ref nd) → m_lk lv 2 = some (.ref hp) → m_lk lv 3 = some (.int xv) → m_lk lv 4 = some (.int xu) → m_lk lv 5 = some (.int xw) → m_lk lv 6 = some (.int xj) → HJ 74 157 lv [] h Q := by
  have kv := sh v.toNat (by omega)
  intro e
  induction e with
  | zero =>
    intro j lv h H xj hj qj M fr T P e0 e1 e2 e3 e4 e5 e6
    exact r_lo157 M e0 e1 e2 e3 qv e4 qu e5 qw e6 qj (by omega) nok.1.2 nok.1.1 (fun _ => g lv h H M fr (by rw [← show j = (ps_k S v.toNat).toNat by omega]; exact T) P e0 e1 e2) (fun c => absurd c (by omega))
  | succ e ih =>
    intro j lv h H xj hj qj M fr T P e0 e1 e2 e3 e4 e5 e6
    refine r_lo157 M e0 e1 e2 e3 qv e4 qu e5 qw e6 qj (by omega) nok.1.2 nok.1.1 (fun c => absurd c (by omega)) (fun _ => ?_)
    have J : cs_of h0 H nd S := cs_mv (h1 := h0) I (by rw [fr nd nx.1 nx.2]) (by rw [fr nd nx.1 nx.2]) (fun q _ => by rw [fr _ cx.1 cx.2])
    refine k_ch (r := j) M nok J qv qj v0 v1 (by omega) (by omega) (fun xc qc => ?_)
    obtain ⟨b0, b1, b2⟩ := kv.2 j (by omega)
    refine r_lo170 M e0 e1 e2 e3 qv e4 qu e5 qw e6 qj qc ok.1.2.1 ok.1.1 ?_
    refine k_push M ok qc qw (by omega) T (by rw [List.length_append, wk_chL]; omega) (fun h2 H2 M2 T2 p1 p2 => ?_)
    refine r_lo175 M2 e0 e1 e2 e3 qv e4 qu e5 qw e6 qj (by omega) (by omega) (fun x3 q3 lv3 a0 a1 a2 a3 a4 a5 a6 => ih (j + 1) lv3 h2 H2 x3 (by omega) (by omega) M2 (fun a ha hb => by rw [p1 a ha (hb 5 (by decide)) (hb 6 (by decide))]; exact fr a ha hb) T2 ⟨by rw [p2 8 (by decide)]; exact P.1, fun i hi => ?_⟩ a0 a1 a2 a3 a4 a5 a6)
    have q : ∀ k, k < 5 → H2 (h_r h0 wa k) = H (h_r h0 wa k) := fun k hk => p1 _ (wl_ne ok (by omega)) (ok.2.2 k 5 (by omega) (by decide) (by omega)) (ok.2.2 k 6 (by omega) (by decide) (by omega))
    rw [q 0 (by decide), q 1 (by decide), q 2 (by decide), q 3 (by decide)]
    exact P.2 i hi
theorem l_loM {wa nd hp : Nat} {S : PSt} {W : Nat} {R : WKt} {H0 : Nat → Nat → Int} (ok : wl_ok h0 wa) (nok : nd_ok h0 nd (ps_n S)) (I : cs_of h0 H0 nd S) (nx : nd ≠ wa ∧ ∀ k, k < 7 → nd ≠ h_r h0 wa k) (cx : h_r h0 nd 0 ≠ wa ∧ ∀ k, k < 7 → h_r h0 nd 0 ≠ h_r h0 wa k) (sh : ps_sh S) (hW : W ≤ 63) (g : ∀ (h' : MH) (H' : Nat → Nat → Int), RX h0 h' H' → wl_fr h0 wa H0 H' → wl_of h0 H' wa S R → Q none h') : ∀ (e : Nat) (l : List (Int × Int)) (O : WKt) (lv : List (Nat × Value)) (h : MH) (H : Nat → Nat → Int), O.1 + e = 64 → wk_in S W l O → wk_go S e l O = R → RX h0 h H → wl_fr h0 wa H0 H → wl_st h0 H wa l → wl_of h0 H wa S O → m_lk lv 0 = some (.ref wa) → m_lk lv 1 = some (.ref nd) → m_lk lv 2 = some (.ref hp) → HJ 74 30 lv [] h Q := by
  have wx := fun k hk => wl_ne ok (k := k) hk
  have wy := fun a b ha hb hn => ok.2.2 a b ha hb hn
  obtain ⟨ka0, kb0, -, kc0⟩ := ok.2.1 0 (by decide)
  obtain ⟨ka1, kb1, -, kc1⟩ := ok.2.1 1 (by decide)
  obtain ⟨ka2, kb2, -, kc2⟩ := ok.2.1 2 (by decide)
  obtain ⟨ka3, kb3, -, kc3⟩ := ok.2.1 3 (by decide)
  obtain ⟨ka5, kb5, -, kc5⟩ := ok.2.1 5 (by decide)
  obtain ⟨ka6, kb6, -, kc6⟩ := ok.2.1 6 (by decide)
  intro e
  induction e with
  | zero =>
    intro l O lv h H he J
    exfalso
    have := J.2.2
    omega
  | succ e ih =>
    intro l O lv h H he J er M fr T P e0 e1 e2
    have JL := wq_wL (S := S) l
    have Jw := J.2.2
    have T1 := T.1
    have P1 := P.1
    refine r_lo30 M e0 e1 e2 (by omega) (by omega) (by omega) (wx 0 (by decide)) (wx 1 (by decide)) (wx 2 (by decide)) (wx 3 (by decide)) (wx 5 (by decide)) (wx 6 (by decide)) nx.1 (wy 0 1 (by decide) (by decide) (by decide)) (wy 0 2 (by decide) (by decide) (by decide)) (wy 0 3 (by decide) (by decide) (by decide)) (wy 0 5 (by decide) (by decide) (by decide)) (wy 0 6 (by decide) (by decide) (by decide)) (wy 1 2 (by decide) (by decide) (by decide)) (wy 1 3 (by decide) (by decide) (by decide)) (wy 1 5 (by decide) (by decide) (by decide)) (wy 1 6 (by decide) (by decide) (by decide)) (wy 2 3 (by decide) (by decide) (by decide)) (wy 2 5 (by decide) (by decide) (by decide)) (wy 2 6 (by decide) (by decide) (by decide)) (wy 3 5 (by decide) (by decide) (by decide)) (wy 3 6 (by decide) (by decide) (by decide)) (wy 5 6 (by decide) (by decide) (by decide)) ok.1.1 ka5 kc5 ka6 kc6 ka0 kc0 kb0 nok.1.2 nok.1.1 (fun c => ?_) (fun c1 c2 => ?_) (fun h7 H7 f7 x9 q9 x12 q12 x14 q14 h19 H19 f19 h20 H20 f20 lv15 M20 a0 a1 a2 a3 a4 a5 c1 c2 => ?_)
    · cases l with
      | nil =>
        have er : O = R := er
        rw [← er] at g
        exact g h H M fr P
      | cons q l =>
        exfalso
        have : ((q :: l).length : Int) = (l.length : Int) + 1 := by rw [List.length_cons]; omega
        omega
    · exfalso
      omega
    · cases l with
      | nil =>
        exfalso
        have : (([] : List (Int × Int)).length : Int) = 0 := rfl
        omega
      | cons q l =>
        obtain ⟨v, u⟩ := q
        have ll : ((v, u) :: l).length = l.length + 1 := rfl
        have T2 : (H (h_r h0 wa 5) l.length, H (h_r h0 wa 6) l.length) :: wk_st (H (h_r h0 wa 5)) (H (h_r h0 wa 6)) l.length = (v, u) :: l := T.2
        injection T2 with T3 T4
        injection T3 with T5 T6
        have it : (H wa 9 - 1).toNat = l.length := by omega
        have qv : x9.toInt = v := by rw [q9, it]; exact T5
        have qu : x12.toInt = u := by rw [q12, it]; exact T6
        have qw : x14.toInt = (O.1 : Int) := q14.trans P1
        obtain ⟨⟨v0, v1⟩, hu⟩ := J.2.1 (v, u) (List.mem_cons_self ..)
        have v0 : 0 ≤ v := v0
        have v1 : v < (ps_n S : Int) := v1
        have hu : u = -1 ∨ (0 ≤ u ∧ u < (O.1 : Int) ∧ O.2.2.2 u.toNat + 1 + ps_k S v.toNat ≤ 5) := hu
        have kv := sh v.toNat (by omega)
        have Jw' : 2 ^ (ps_k S v.toNat).toNat + wq_w S l + O.1 = W := Jw
        have JL' := wq_wL (S := S) l
        have two : (ps_k S v.toNat).toNat < 2 ^ (ps_k S v.toNat).toNat := Nat.lt_two_pow_self
        have g20 : ∀ a, a ≠ wa → a ≠ h_r h0 wa 0 → H20 a = H a := fun a h1 h2 => by rw [f20, m_uN _ _ _ _ h2, f19, m_uN _ _ _ _ h1, f7, m_uN _ _ _ _ h1]
        have J20 : cs_of h0 H20 nd S := cs_mv (h1 := h0) I (by rw [g20 nd nx.1 (nx.2 0 (by decide)), fr nd nx.1 nx.2]) (by rw [g20 nd nx.1 (nx.2 0 (by decide)), fr nd nx.1 nx.2]) (fun q _ => by rw [g20 _ cx.1 (cx.2 0 (by decide)), fr _ cx.1 cx.2])
        refine k_wt M20 nok J20 qv v0 v1 (fun xp qp => ?_)
        have rest : ∀ (d : Int) (h21 h22 h23 : MH) (H21 H22 H23 : Nat → Nat → Int), H21 = m_u H20 (h_r h0 wa 1) (m_u (H20 (h_r h0 wa 1)) (O.1 : Int).toNat (128 * ps_y S v.toNat + ps_t S v.toNat)) → H22 = m_u H21 (h_r h0 wa 2) (m_u (H21 (h_r h0 wa 2)) (O.1 : Int).toNat u) → H23 = m_u H22 (h_r h0 wa 3) (m_u (H22 (h_r h0 wa 3)) (O.1 : Int).toNat d) → RX h0 h23 H23 → d = (if u = -1 then 0 else O.2.2.2 u.toNat + 1) → HJ 67 0 (lv_args 0 [.ref nd, .int x9]) [] h23 (fun v h' => HJ 74 153 lv15 (v.toList ++ []) h' Q) := fun d h21 h22 h23 H21 H22 H23 g1 g2 g3 M23 ed => by
          rw [Int.toNat_natCast] at g1 g2 g3
          have g23 : ∀ a, a ≠ wa → a ≠ h_r h0 wa 0 → a ≠ h_r h0 wa 1 → a ≠ h_r h0 wa 2 → a ≠ h_r h0 wa 3 → H23 a = H a := fun a z z0 z1 z2 z3 => by rw [g3, m_uN _ _ _ _ z3, g2, m_uN _ _ _ _ z2, g1, m_uN _ _ _ _ z1, g20 a z z0]
          have J23 : cs_of h0 H23 nd S := cs_mv (h1 := h0) J20 (by rw [g23 nd nx.1 (nx.2 0 (by decide)) (nx.2 1 (by decide)) (nx.2 2 (by decide)) (nx.2 3 (by decide)), g20 nd nx.1 (nx.2 0 (by decide))]) (by rw [g23 nd nx.1 (nx.2 0 (by decide)) (nx.2 1 (by decide)) (nx.2 2 (by decide)) (nx.2 3 (by decide)), g20 nd nx.1 (nx.2 0 (by decide))]) (fun q _ => by rw [g23 _ cx.1 (cx.2 0 (by decide)) (cx.2 1 (by decide)) (cx.2 2 (by decide)) (cx.2 3 (by decide)), g20 _ cx.1 (cx.2 0 (by decide))])
          refine k_rk M23 nok J23 qv v0 v1 (fun xk qk => ?_)
          refine r_lo153 M23 a0 a1 a2 a3 qv a4 qu a5 qw qk kv.1.1 (by omega) (fun x2 q2 lv3 b0 b1 b2 b3 b4 b5 b6 => ?_)
          have z0 : H23 (h_r h0 wa 0) = m_u (H (h_r h0 wa 0)) O.1 v := by
            rw [g3, m_uN _ _ _ _ (wy 0 3 (by decide) (by decide) (by decide)), g2, m_uN _ _ _ _ (wy 0 2 (by decide) (by decide) (by decide)), g1, m_uN _ _ _ _ (wy 0 1 (by decide) (by decide) (by decide)), f20, m_uE, f19, m_uN _ _ _ _ (wx 0 (by decide)), f7, m_uN _ _ _ _ (wx 0 (by decide)), P1, Int.toNat_natCast, it, T5]
          have z1 : H23 (h_r h0 wa 1) = m_u (H (h_r h0 wa 1)) O.1 (128 * ps_y S v.toNat + ps_t S v.toNat) := by
            rw [g3, m_uN _ _ _ _ (wy 1 3 (by decide) (by decide) (by decide)), g2, m_uN _ _ _ _ (wy 1 2 (by decide) (by decide) (by decide)), g1, m_uE, g20 _ (wx 1 (by decide)) (wy 1 0 (by decide) (by decide) (by decide))]
          have z2 : H23 (h_r h0 wa 2) = m_u (H (h_r h0 wa 2)) O.1 u := by
            rw [g3, m_uN _ _ _ _ (wy 2 3 (by decide) (by decide) (by decide)), g2, m_uE, g1, m_uN _ _ _ _ (wy 2 1 (by decide) (by decide) (by decide)), g20 _ (wx 2 (by decide)) (wy 2 0 (by decide) (by decide) (by decide))]
          have z3 : H23 (h_r h0 wa 3) = m_u (H (h_r h0 wa 3)) O.1 d := by
            rw [g3, m_uE, g2, m_uN _ _ _ _ (wy 3 2 (by decide) (by decide) (by decide)), g1, m_uN _ _ _ _ (wy 3 1 (by decide) (by decide) (by decide)), g20 _ (wx 3 (by decide)) (wy 3 0 (by decide) (by decide) (by decide))]
          have z5 : H23 (h_r h0 wa 5) = H (h_r h0 wa 5) := g23 _ (wx 5 (by decide)) (wy 5 0 (by decide) (by decide) (by decide)) (wy 5 1 (by decide) (by decide) (by decide)) (wy 5 2 (by decide) (by decide) (by decide)) (wy 5 3 (by decide) (by decide) (by decide))
          have z6 : H23 (h_r h0 wa 6) = H (h_r h0 wa 6) := g23 _ (wx 6 (by decide)) (wy 6 0 (by decide) (by decide) (by decide)) (wy 6 1 (by decide) (by decide) (by decide)) (wy 6 2 (by decide) (by decide) (by decide)) (wy 6 3 (by decide) (by decide) (by decide))
          have zw : H23 wa = m_u (m_u (H wa) 9 (H wa 9 - 1)) 8 (H wa 8 + 1) := by
            rw [g3, m_uN _ _ _ _ (Ne.symm (wx 3 (by decide))), g2, m_uN _ _ _ _ (Ne.symm (wx 2 (by decide))), g1, m_uN _ _ _ _ (Ne.symm (wx 1 (by decide))), f20, m_uN _ _ _ _ (Ne.symm (wx 0 (by decide))), f19, m_uE, f7, m_uE]
          refine l_loC (O := wk_on v u O) (w := O.1) (l := l) (H0 := H0) ok nok I nx cx qv qu qw v0 v1 sh (by omega) (fun lv4 h4 H4 M4 fr4 T4' P4 c0 c1 c2 => ?_) (ps_k S v.toNat).toNat 0 lv3 h23 H23 x2 (by omega) (by omega) M23 (fun a ha hb => ?_) ⟨?_, ?_⟩ ⟨?_, fun i hi => ?_⟩ b0 b1 b2 b3 b4 b5 b6
          · exact ih (wk_ch S v O.1 (ps_k S v.toNat).toNat ++ l) (wk_on v u O) lv4 h4 H4 (by show O.1 + 1 + e = 64; omega) (wk_onX sh J) er M4 fr4 T4' P4 c0 c1 c2
          · rw [g23 a ha (hb 0 (by decide)) (hb 1 (by decide)) (hb 2 (by decide)) (hb 3 (by decide))]
            exact fr a ha hb
          · rw [zw, m_uN _ _ _ _ (by decide), m_uE]
            show _ = (l.length : Int)
            omega
          · rw [z5, z6]
            exact T4
          · rw [zw, m_uE]
            show _ = ((O.1 + 1 : Nat) : Int)
            omega
          · have hi : i < O.1 + 1 := hi
            rw [z0, z1, z2, z3]
            show m_u (H (h_r h0 wa 0)) O.1 v i = m_u O.2.1 O.1 v i ∧ _ = 128 * ps_y S (m_u O.2.1 O.1 v i).toNat + ps_t S (m_u O.2.1 O.1 v i).toNat ∧ _ = m_u O.2.2.1 O.1 u i ∧ _ = m_u O.2.2.2 O.1 (if u = -1 then 0 else O.2.2.2 u.toNat + 1) i
            by_cases c : i = O.1
            · subst c
              rw [m_uE, m_uE, m_uE, m_uE, m_uE, m_uE, m_uE]
              exact ⟨rfl, rfl, rfl, ed⟩
            · rw [m_uN _ _ _ _ c, m_uN _ _ _ _ c, m_uN _ _ _ _ c, m_uN _ _ _ _ c, m_uN _ _ _ _ c, m_uN _ _ _ _ c, m_uN _ _ _ _ c]
              exact P.2 i (by omega)
        have d20 : u ≠ -1 → H20 (h_r h0 wa 3) u.toNat = O.2.2.2 u.toNat ∧ 0 ≤ O.2.2.2 u.toNat ∧ O.2.2.2 u.toNat ≤ 5 := fun un => by
          obtain ⟨z1, z2, z3⟩ := hu.resolve_left un
          have a := J.1 u.toNat (by omega)
          exact ⟨by rw [g20 _ (wx 3 (by decide)) (wy 3 0 (by decide) (by decide) (by decide))]; exact (P.2 u.toNat (by omega)).2.2.2, a.2.2.1, by have := kv.1.1; omega⟩
        refine r_lo112 M20 a0 a1 a2 a3 qv a4 qu a5 qw qw qp (by omega) (by omega) (by rcases hu with z | z <;> omega) (by rcases hu with z | z <;> omega) (fun un => by have := d20 un; omega) (wx 0 (by decide)) (wx 1 (by decide)) (wx 2 (by decide)) (wx 3 (by decide)) (wx 5 (by decide)) (wx 6 (by decide)) nx.1 (wy 0 1 (by decide) (by decide) (by decide)) (wy 0 2 (by decide) (by decide) (by decide)) (wy 0 3 (by decide) (by decide) (by decide)) (wy 0 5 (by decide) (by decide) (by decide)) (wy 0 6 (by decide) (by decide) (by decide)) (wy 1 2 (by decide) (by decide) (by decide)) (wy 1 3 (by decide) (by decide) (by decide)) (wy 1 5 (by decide) (by decide) (by decide)) (wy 1 6 (by decide) (by decide) (by decide)) (wy 2 3 (by decide) (by decide) (by decide)) (wy 2 5 (by decide) (by decide) (by decide)) (wy 2 6 (by decide) (by decide) (by decide)) (wy 3 5 (by decide) (by decide) (by decide)) (wy 3 6 (by decide) (by decide) (by decide)) (wy 5 6 (by decide) (by decide) (by decide)) ka1 kc1 kb1 ok.1.1 ka2 kc2 kb2 ka3 kc3 kb3 nok.1.2 nok.1.1 (fun h1 H1 f1 h2 H2 f2 h7 H7 f7 M7 c => ?_) (fun h1 H1 f1 h2 H2 f2 h9 H9 f9 M9 c => ?_)
        · exact rest _ h1 h2 h7 H1 H2 H7 f1 f2 f7 M7 (by rw [if_neg c, (d20 c).1])
        · exact rest _ h1 h2 h9 H1 H2 H9 f1 f2 f9 M9 (by rw [if_pos c])
theorem k_look {wa nd hp : Nat} {S : PSt} {f : Nat → Int} (M : RX h0 h H) (ok : wl_ok h0 wa) (nok : nd_ok h0 nd (ps_n S)) (I : cs_of h0 H nd S) (nx : nd ≠ wa ∧ ∀ k, k < 7 → nd ≠ h_r h0 wa k) (cx : h_r h0 nd 0 ≠ wa ∧ ∀ k, k < 7 → h_r h0 nd 0 ≠ h_r h0 wa k) (hok : hp_ok h0 hp) (hx : hp ≠ wa ∧ ∀ k, k < 7 → hp ≠ h_r h0 wa k) (ef : hp6 (H hp) f) (sh : ps_sh S) (hf : hp_in S f) (g : ∀ (h' : MH) (H' : Nat → Nat → Int), RX h0 h' H' → wl_fr h0 wa H H' → wl_of h0 H' wa S (wk_all S f) → Q none h') : HJ 74 0 (lv_args 0 [.ref wa, .ref nd, .ref hp]) [] h Q := by
  have L := p_wsL (f := f) 6
  have e6 : (2 : Nat) ^ 6 = 64 := by decide
  rw [e6] at L
  refine r_lo0 M rfl rfl rfl ok.1.1 (fun h2 H2 f2 h4 H4 f4 x5 q5 lv6 M4 e0 e1 e2 e3 => ?_)
  have fr4 : wl_fr h0 wa H H4 := fun a ha _ => by rw [f4, m_uN _ _ _ _ ha, f2, m_uN _ _ _ _ ha]
  refine l_loR (f := f) ok hok hx ef (fun lv h' H' M' fr T s0 a0 a1 a2 => ?_) 6 lv6 h4 H4 x5 (Nat.le_refl _) q5 M4 fr4 ⟨?_, rfl⟩ ?_ (Nat.le_refl _) e0 e1 e2 e3
  · exact l_loM (R := wk_all S f) (W := p_ws f 6) ok nok I nx cx sh (by omega) g 64 (wk_rs f 6 0) wk_0 lv h' H' rfl (wk_in0 hf) rfl M' fr T ⟨s0, fun i hi => absurd hi (Nat.not_lt_zero i)⟩ a0 a1 a2
  · rw [f4, m_uE, m_uE]
    rfl
  · rw [f4, m_uE, m_uN _ _ _ _ (by decide), f2, m_uE, m_uE]
end
