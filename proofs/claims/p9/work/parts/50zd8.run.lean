-- HOW MANY BITS, UP TO SIX
def bc_us (x y : Int32) : Int32 := (x.toUInt32 >>> (y.toUInt32 &&& Int32.toUInt32 31)).toInt32
def bc_1 (x : Int32) : Int32 := x - (bc_us x (Int32.ofInt 1) &&& 1431655765)
def bc_2 (x : Int32) : Int32 := (x &&& 858993459) + (bc_us x (Int32.ofInt 2) &&& 858993459)
def bc_3 (x : Int32) : Int32 := (x + bc_us x (Int32.ofInt 4)) &&& 252645135
def bc_4 (x : Int32) : Int32 := x + bc_us x (Int8.ofInt 8).toInt32
def bc_5 (x : Int32) : Int32 := x + bc_us x (Int8.ofInt 16).toInt32
theorem bc_key : ∀ n : Nat, n < 64 → ((bc_5 (bc_4 (bc_3 (bc_2 (bc_1 (Int32.ofInt n)))))) &&& (Int8.ofInt 63).toInt32).toInt = (p_bc n : Int) := by decide +kernel
section
variable {i pc pc' : Nat} {lv : List (Nat × Value)} {st : List Value} {h : MH} {Q : Option Value → MH → Prop}
theorem hX_us {x y : Int32} (a : m_at i pc = some (.iushr, 1)) (hp : pc + 1 = pc') (g : HJ i pc' lv (.int (bc_us x y) :: st) h Q) : HJ i pc lv (.int y :: .int x :: st) h Q := by
  subst hp
  exact HJ.ex a (Or.inl rfl) rfl g
theorem hX_an {x y : Int32} (a : m_at i pc = some (.iand, 1)) (hp : pc + 1 = pc') (g : HJ i pc' lv (.int (x &&& y) :: st) h Q) : HJ i pc lv (.int y :: .int x :: st) h Q := by
  subst hp
  exact HJ.ex a (Or.inl rfl) rfl g
theorem hX_lw {idx : Nat} {x : Int32} (a : m_at i pc = some (.ldc_w idx, 3)) (hx : m_ic i idx = some x) (hp : pc + 3 = pc') (g : HJ i pc' lv (.int x :: st) h Q) : HJ i pc lv st h Q := by
  subst hp
  refine HJ.ex a (Or.inl rfl) ?_ g
  show e_ldc 3 i idx pc lv st h = _
  unfold e_ldc
  rw [hx]
  rfl
theorem k_bcG {x : Int32} (g : Q (some (.int ((bc_5 (bc_4 (bc_3 (bc_2 (bc_1 x))))) &&& (Int8.ofInt 63).toInt32))) h) : HJ 82 0 (lv_args 0 [.int x]) [] h Q := by
  refine hI_il (k := 0) (x := x) rfl rfl rfl ?_
  refine hI_il (k := 0) (x := x) rfl rfl rfl ?_
  refine hI_ic (n := 1) rfl rfl ?_
  refine hX_us rfl rfl ?_
  refine hX_lw (x := 1431655765) rfl rfl rfl ?_
  refine hX_an rfl rfl ?_
  refine hI_sub rfl rfl ?_
  show HJ 82 9 _ [.int (bc_1 x)] h Q
  refine hI_is (k := 0) rfl (by decide +kernel) rfl ?_
  generalize e1 : bc_1 x = x1
  refine hI_il (k := 0) (x := x1) rfl rfl rfl ?_
  refine hX_lw (x := 858993459) rfl rfl rfl ?_
  refine hX_an rfl rfl ?_
  refine hI_il (k := 0) (x := x1) rfl rfl rfl ?_
  refine hI_ic (n := 2) rfl rfl ?_
  refine hX_us rfl rfl ?_
  refine hX_lw (x := 858993459) rfl rfl rfl ?_
  refine hX_an rfl rfl ?_
  refine hI_add rfl rfl ?_
  show HJ 82 23 _ [.int (bc_2 x1)] h Q
  refine hI_is (k := 0) rfl (by decide +kernel) rfl ?_
  generalize e2 : bc_2 x1 = x2
  refine hI_il (k := 0) (x := x2) rfl rfl rfl ?_
  refine hI_il (k := 0) (x := x2) rfl rfl rfl ?_
  refine hI_ic (n := 4) rfl rfl ?_
  refine hX_us rfl rfl ?_
  refine hI_add rfl rfl ?_
  refine hX_lw (x := 252645135) rfl rfl rfl ?_
  refine hX_an rfl rfl ?_
  show HJ 82 33 _ [.int (bc_3 x2)] h Q
  refine hI_is (k := 0) rfl (by decide +kernel) rfl ?_
  generalize e3 : bc_3 x2 = x3
  refine hI_il (k := 0) (x := x3) rfl rfl rfl ?_
  refine hI_il (k := 0) (x := x3) rfl rfl rfl ?_
  refine hI_bp (n := 8) rfl rfl ?_
  refine hX_us rfl rfl ?_
  refine hI_add rfl rfl ?_
  show HJ 82 40 _ [.int (bc_4 x3)] h Q
  refine hI_is (k := 0) rfl (by decide +kernel) rfl ?_
  generalize e4 : bc_4 x3 = x4
  refine hI_il (k := 0) (x := x4) rfl rfl rfl ?_
  refine hI_il (k := 0) (x := x4) rfl rfl rfl ?_
  refine hI_bp (n := 16) rfl rfl ?_
  refine hX_us rfl rfl ?_
  refine hI_add rfl rfl ?_
  show HJ 82 47 _ [.int (bc_5 x4)] h Q
  refine hI_is (k := 0) rfl (by decide +kernel) rfl ?_
  generalize e5 : bc_5 x4 = x5
  refine hI_il (k := 0) (x := x5) rfl rfl rfl ?_
  refine hI_bp (n := 63) rfl rfl ?_
  refine hX_an rfl rfl ?_
  refine hI_ri rfl rfl ?_
  rw [← e5, ← e4, ← e3, ← e2, ← e1]
  exact g
theorem k_bc {x : Int32} {n : Nat} (q : x.toInt = (n : Int)) (n63 : n ≤ 63) (g : ∀ w : Int32, w.toInt = (p_bc n : Int) → Q (some (.int w)) h) : HJ 82 0 (lv_args 0 [.int x]) [] h Q := by
  have ex : x = Int32.ofInt n := by
    rw [← q, Int32.ofInt_toInt]
  subst ex
  exact k_bcG (g _ (bc_key n (by omega)))
theorem bc_key2 : ∀ n : Nat, n < 127 → ((bc_5 (bc_4 (bc_3 (bc_2 (bc_1 (Int32.ofInt n)))))) &&& (Int8.ofInt 63).toInt32).toInt = ((p_bc n + n / 64 : Nat) : Int) := by decide +kernel
theorem k_bc2 {x : Int32} {n : Nat} (q : x.toInt = (n : Int)) (n126 : n ≤ 126) (g : ∀ w : Int32, w.toInt = ((p_bc n + n / 64 : Nat) : Int) → Q (some (.int w)) h) : HJ 82 0 (lv_args 0 [.int x]) [] h Q := by
  have ex : x = Int32.ofInt n := by
    rw [← q, Int32.ofInt_toInt]
  subst ex
  exact k_bcG (g _ (bc_key2 n (by omega)))
theorem hI_max {idx nest : Nat} {x y : Int32} (a : m_at i pc = some (.invokestatic idx, 3)) (hm : m_ml i idx = some (nest, 47)) (hc : nest = 0 ∧ 1 ≤ m_fr i ∧ m_cat st + 13 ≤ m_lo i) (hp : pc + 3 = pc') (g : HJ i pc' lv (.int (if x < y then y else x) :: st) h Q) : HJ i pc lv (.int y :: .int x :: st) h Q := by
  subst hp
  refine HJ.ex a (Or.inl rfl) ?_ g
  show e_call 0 i idx pc lv (.int y :: .int x :: st) h = _
  unfold e_call
  rw [hm]
  dsimp only
  rw [if_neg (by decide), if_neg (by decide), if_pos (show (47 : Nat) = m_jmin ∨ (47 : Nat) = m_jmax from Or.inr rfl), if_pos ⟨rfl, hc⟩, if_neg (show ¬ (47 : Nat) = m_jmin by decide)]
  rfl
end
-- WHAT IS CHANGED IN PLACE, LONGS TOO
def RL (h0 h : MH) (H : Nat → Nat → Int) (L : Nat → Nat → Int64) : Prop := h.1 = h0.1 ∧ h_k h = h_k h0 ∧ h_r h = h_r h0 ∧ (∀ a j, h_l h a j = L a j) ∧ ∀ a j, z_i h a j = H a j
theorem RL.ofRX {h0 h : MH} {H : Nat → Nat → Int} (M : RX h0 h H) : RL h0 h H (h_l h0) := ⟨M.1, M.2.1, M.2.2.1.1, fun a j => by rw [M.2.2.1.2], M.2.2.2⟩
theorem RL.sl {h0 h : MH} {H : Nat → Nat → Int} {L : Nat → Nat → Int64} {o j : Nat} {x : Int64} (M : RL h0 h H L) : RL h0 (h_sl h o j x) H (fun a q => if a = o ∧ q = j then x else L a q) := ⟨M.1, M.2.1, M.2.2.1, fun a q => by
  show m_u h.2.2.2.1 o (m_u (h.2.2.2.1 o) j x) a q = (if a = o ∧ q = j then x else L a q)
  by_cases e : a = o
  · subst e
    rw [m_uE]
    by_cases f : q = j
    · rw [f, m_uE, if_pos ⟨rfl, rfl⟩]
    · rw [m_uN _ _ _ _ f, if_neg (fun z => f z.2)]
      exact M.2.2.2.1 a q
  · rw [m_uN _ _ _ _ e, if_neg (fun z => e z.1)]
    exact M.2.2.2.1 a q, M.2.2.2.2⟩
theorem RL.trX {h0 h h1 : MH} {H H1 : Nat → Nat → Int} {L : Nat → Nat → Int64} (M : RL h0 h H L) (N : RX h h1 H1) : RL h0 h1 H1 L := ⟨N.1.trans M.1, N.2.1.trans M.2.1, N.2.2.1.1.trans M.2.2.1, fun a j => by rw [N.2.2.1.2]; exact M.2.2.2.1 a j, N.2.2.2⟩
theorem FX.ofRL {nd : Nat} {Y : Nat → Prop} {h0 h : MH} {H : Nat → Nat → Int} {L : Nat → Nat → Int64} (M : RL h0 h H L) (e5 : H nd 5 = z_i h0 nd 5) (eD : ∀ j, L (h_r h0 nd 1) j = h_l h0 (h_r h0 nd 1) j) (e : ∀ a, ¬ (a = nd ∨ a = h_r h0 nd 0 ∨ a = h_r h0 nd 1 ∨ Y a) → (∀ j, H a j = z_i h0 a j) ∧ ∀ j, L a j = h_l h0 a j) : FX nd Y h0 h := by
  obtain ⟨m1, m2, m3, m4, m5⟩ := M
  have z5 : z_i h nd 5 = z_i h0 nd 5 := (m5 nd 5).trans e5
  exact ⟨by unfold h_n; rw [m1]; exact Nat.le_refl _, ⟨fun k _ => Or.inl (by rw [m3]), by omega, fun j _ => by rw [m3, m4]; exact eD j, fun j h1 h2 => absurd h2 (by omega)⟩, fun a _ => ⟨by rw [m2], fun k _ => by rw [m3], fun hn => ⟨fun j => by rw [m5]; exact (e a hn).1 j, fun j => by rw [m4]; exact (e a hn).2 j⟩⟩⟩
theorem nl_RL {h0 h : MH} {H : Nat → Nat → Int} {L : Nat → Nat → Int64} {nd : Nat} (ok : nl_ok h0 nd) (M : RL h0 h H L) (e : H nd 5 = z_i h0 nd 5) : nl_ok h nd := by
  obtain ⟨m1, m2, m3, m4, m5⟩ := M
  have en : h_n h = h_n h0 := by unfold h_n; rw [m1]
  have e5 : z_i h nd 5 = z_i h0 nd 5 := (m5 nd 5).trans e
  unfold nl_ok
  rw [en, m2, m3, e5]
  exact ok
-- ROWS OF ACTS, WHERE THEY STAND
def ac_ok (h : MH) (pa ac : Nat) : Prop := ((h_k h ac).1 = 1 ∧ 16 ≤ ac ∧ ac < 16 + h_n h) ∧ ((h_k h (h_r h ac 0)).1 = 20 ∧ h_r h ac 0 < 16 + h_n h ∧ (40 : Int) ≤ ((h_k h (h_r h ac 0)).2 : Int)) ∧ ((h_k h (h_r h ac 1)).1 = 20 ∧ h_r h ac 1 < 16 + h_n h ∧ (120 : Int) ≤ ((h_k h (h_r h ac 1)).2 : Int)) ∧ ∀ i, i < 59 → h_r h ac 0 ≠ pa_w h pa i ∧ h_r h ac 1 ≠ pa_w h pa i
def ac_of (H : Nat → Nat → Int) (ac r0 r1 : Nat) (T : Nat → Int) (N : Nat) : Prop := H ac 2 = (N : Int) ∧ ∀ k : Nat, k < N → H r0 k = T (4 * k) ∧ ∀ i : Nat, i < 3 → H r1 (3 * k + i) = T (4 * k + 1 + i)
section
variable {lv : List (Nat × Value)} {Q : Option Value → MH → Prop} {h0 h : MH} {H : Nat → Nat → Int}
theorem r_kof {ac : Nat} {k : Int} (M : RX h0 h H) (e0 : m_lk lv 0 = some (.ref ac)) {lx1 : Int32} (e1 : m_lk lv 1 = some (.int lx1)) (lq1 : lx1.toInt = k) (pk0 : 0 ≤ k) (pk1 : k ≤ 39) (hk0 : (h_k h0 ac).1 = 1) (ha0 : (h_k h0 (h_r h0 ac 0)).1 = 20) (hl0 : 40 ≤ ((h_k h0 (h_r h0 ac 0)).2 : Int))
    (g0 : ∀ x1 : Int32, x1.toInt = (-1) → k < 0 → Q (some (.int x1)) h)
    (g1 : ∀ x3 : Int32, x3.toInt = (-1) → k ≥ 0 → k ≥ H ac 2 → Q (some (.int x3)) h)
    (g2 : ∀ x4 : Int32, x4.toInt = H (h_r h0 ac 0) (k).toNat → k ≥ 0 → k < H ac 2 → Q (some (.int x4)) h)
    : HJ 54 0 lv [] h Q := by
  refine hI_il (k := 1) rfl e1 rfl ?_ -- 0
  refine hM_zlt (off := 20) (t := 21) rfl lq1 (by decide) rfl (fun c1 => ?_) (fun c1 => ?_) -- 1
  · refine hM_ic (n := (-1)) rfl (by decide) rfl (fun x1 q1 => ?_) -- 21
    refine hI_ri rfl rfl ?_ -- 22
    exact g0 x1 q1 c1
  · refine hI_il (k := 1) rfl e1 rfl ?_ -- 4
    refine hI_al (k := 0) rfl e0 rfl ?_ -- 5
    refine hR_gi (c := 0) (k := 2) M hk0 rfl rfl rfl rfl (fun x2 q2 => ?_) -- 6
    have gb2 : -2147483648 ≤ H ac 2 ∧ H ac 2 ≤ 2147483647 := by rw [← q2]; exact g_iT _
    refine hM_cge (off := 12) (t := 21) rfl lq1 q2 (by decide) rfl (fun c9 => ?_) (fun c9 => ?_) -- 9
    · refine hM_ic (n := (-1)) rfl (by decide) rfl (fun x3 q3 => ?_) -- 21
      refine hI_ri rfl rfl ?_ -- 22
      exact g1 x3 q3 c1 c9
    · refine hI_al (k := 0) rfl e0 rfl ?_ -- 12
      refine hR_gr (c := 0) (k := 0) M hk0 rfl rfl rfl rfl ?_ -- 13
      refine hI_il (k := 1) rfl e1 rfl ?_ -- 16
      refine hR_ia M ha0 lq1 (by omega) (by omega) rfl rfl (fun x4 q4 => ?_) -- 17
      have gb4 : -2147483648 ≤ H (h_r h0 ac 0) (k).toNat ∧ H (h_r h0 ac 0) (k).toNat ≤ 2147483647 := by rw [← q4]; exact g_iT _
      refine hI_go (pc' := 22) (off := 4) rfl (by decide) ?_ -- 18
      refine hI_ri rfl rfl ?_ -- 22
      exact g2 x4 q4 c1 c9
theorem r_nof {ac : Nat} {k i : Int} (M : RX h0 h H) (e0 : m_lk lv 0 = some (.ref ac)) {lx1 : Int32} (e1 : m_lk lv 1 = some (.int lx1)) (lq1 : lx1.toInt = k) {lx2 : Int32} (e2 : m_lk lv 2 = some (.int lx2)) (lq2 : lx2.toInt = i) (pk0 : 0 ≤ k) (pk1 : k ≤ 39) (pi0 : 0 ≤ i) (pi1 : i ≤ 2) (hk0 : (h_k h0 ac).1 = 1) (ha0 : (h_k h0 (h_r h0 ac 1)).1 = 20) (hl0 : 120 ≤ ((h_k h0 (h_r h0 ac 1)).2 : Int))
    (g0 : ∀ x1 : Int32, x1.toInt = (-1) → k < 0 → Q (some (.int x1)) h)
    (g1 : ∀ x3 : Int32, x3.toInt = (-1) → k ≥ 0 → k ≥ H ac 2 → Q (some (.int x3)) h)
    (g2 : ∀ x4 : Int32, x4.toInt = (-1) → k ≥ 0 → k < H ac 2 → i < 0 → Q (some (.int x4)) h)
    (g3 : ∀ x6 : Int32, x6.toInt = (-1) → k ≥ 0 → k < H ac 2 → i ≥ 0 → i ≥ 3 → Q (some (.int x6)) h)
    (g4 : ∀ x10 : Int32, x10.toInt = H (h_r h0 ac 1) ((k * 3) + i).toNat → k ≥ 0 → k < H ac 2 → i ≥ 0 → i < 3 → Q (some (.int x10)) h)
    : HJ 55 0 lv [] h Q := by
  refine hI_il (k := 1) rfl e1 rfl ?_ -- 0
  refine hM_zlt (off := 33) (t := 34) rfl lq1 (by decide) rfl (fun c1 => ?_) (fun c1 => ?_) -- 1
  · refine hM_ic (n := (-1)) rfl (by decide) rfl (fun x1 q1 => ?_) -- 34
    refine hI_ri rfl rfl ?_ -- 35
    exact g0 x1 q1 c1
  · refine hI_il (k := 1) rfl e1 rfl ?_ -- 4
    refine hI_al (k := 0) rfl e0 rfl ?_ -- 5
    refine hR_gi (c := 0) (k := 2) M hk0 rfl rfl rfl rfl (fun x2 q2 => ?_) -- 6
    have gb2 : -2147483648 ≤ H ac 2 ∧ H ac 2 ≤ 2147483647 := by rw [← q2]; exact g_iT _
    refine hM_cge (off := 25) (t := 34) rfl lq1 q2 (by decide) rfl (fun c9 => ?_) (fun c9 => ?_) -- 9
    · refine hM_ic (n := (-1)) rfl (by decide) rfl (fun x3 q3 => ?_) -- 34
      refine hI_ri rfl rfl ?_ -- 35
      exact g1 x3 q3 c1 c9
    · refine hI_il (k := 2) rfl e2 rfl ?_ -- 12
      refine hM_zlt (off := 21) (t := 34) rfl lq2 (by decide) rfl (fun c13 => ?_) (fun c13 => ?_) -- 13
      · refine hM_ic (n := (-1)) rfl (by decide) rfl (fun x4 q4 => ?_) -- 34
        refine hI_ri rfl rfl ?_ -- 35
        exact g2 x4 q4 c1 c9 c13
      · refine hI_il (k := 2) rfl e2 rfl ?_ -- 16
        refine hM_ic (n := 3) rfl (by decide) rfl (fun x5 q5 => ?_) -- 17
        refine hM_cge (off := 16) (t := 34) rfl lq2 q5 (by decide) rfl (fun c18 => ?_) (fun c18 => ?_) -- 18
        · refine hM_ic (n := (-1)) rfl (by decide) rfl (fun x6 q6 => ?_) -- 34
          refine hI_ri rfl rfl ?_ -- 35
          exact g3 x6 q6 c1 c9 c13 c18
        · refine hI_al (k := 0) rfl e0 rfl ?_ -- 21
          refine hR_gr (c := 0) (k := 1) M hk0 rfl rfl rfl rfl ?_ -- 22
          refine hI_il (k := 1) rfl e1 rfl ?_ -- 25
          refine hM_ic (n := 3) rfl (by decide) rfl (fun x7 q7 => ?_) -- 26
          refine hM_mul rfl lq1 q7 (by omega) (by omega) rfl (fun x8 q8 => ?_) -- 27
          refine hI_il (k := 2) rfl e2 rfl ?_ -- 28
          refine hM_add rfl q8 lq2 (by omega) (by omega) rfl (fun x9 q9 => ?_) -- 29
          refine hR_ia M ha0 q9 (by omega) (by omega) rfl rfl (fun x10 q10 => ?_) -- 30
          have gb10 : -2147483648 ≤ H (h_r h0 ac 1) ((k * 3) + i).toNat ∧ H (h_r h0 ac 1) ((k * 3) + i).toNat ≤ 2147483647 := by rw [← q10]; exact g_iT _
          refine hI_go (pc' := 35) (off := 4) rfl (by decide) ?_ -- 31
          refine hI_ri rfl rfl ?_ -- 35
          exact g4 x10 q10 c1 c9 c13 c18
theorem r_bit {v : Int} (M : RX h0 h H) {lx0 : Int32} (e0 : m_lk lv 0 = some (.int lx0)) (lq0 : lx0.toInt = v) 
    (g0 : Q (some (.long ((Int64.ofNat (1 : Fin 2).val) <<< ((Int32.ofInt (v)).toInt64 &&& 63)))) h)
    : HJ 52 0 lv [] h Q := by
  refine hI_lc (n := 1) rfl rfl ?_ -- 0
  refine hI_il (k := 0) rfl e0 rfl ?_ -- 1
  refine hM_lshl rfl lq0 rfl ?_ -- 2
  refine hI_rl rfl rfl ?_
  exact g0 
theorem r_la0 {li : Nat} {v a b : Int} (M : RX h0 h H) (e0 : m_lk lv 0 = some (.ref li)) {lx1 : Int32} (e1 : m_lk lv 1 = some (.int lx1)) (lq1 : lx1.toInt = v) {lx2 : Int32} (e2 : m_lk lv 2 = some (.int lx2)) (lq2 : lx2.toInt = a) {lx3 : Int32} (e3 : m_lk lv 3 = some (.int lx3)) (lq3 : lx3.toInt = b) (pv0 : 0 ≤ v) (pv1 : v ≤ 40) (pa1 : a < v) (pb1 : b < v) (hk0 : (h_k h0 li).1 = 2) (ha0 : (h_k h0 (h_r h0 li 0)).1 = 20) (hl0 : 41 ≤ ((h_k h0 (h_r h0 li 0)).2 : Int)) (hs0 : 16 ≤ h_r h0 li 0) (ha1 : (h_k h0 (h_r h0 li 1)).1 = 20) (hl1 : 41 ≤ ((h_k h0 (h_r h0 li 1)).2 : Int)) (hs1 : 16 ≤ h_r h0 li 1)
    (g0 : v < 0 → Q none h)
    (g1 : v ≥ 0 → v ≥ 41 → Q none h)
    (g2 : ∀ h3 : MH, ∀ H3 : Nat → Nat → Int, H3 = m_u H (h_r h0 li 0) (m_u (H (h_r h0 li 0)) (v).toNat ((-1))) → ∀ h5 : MH, ∀ H5 : Nat → Nat → Int, H5 = m_u H3 (h_r h0 li 1) (m_u (H3 (h_r h0 li 1)) (v).toNat ((-1))) → RX h0 h5 H5 → v ≥ 0 → v < 41 → a ≥ v → b ≥ v → HJ 52 0 (lv_args 0 [.int lx1]) [] h5 (fun v h' => HJ 51 51 lv (v.toList ++ [.int lx1, .ref (h_r h0 li 2)]) h' Q))
    (g3 : ∀ h3 : MH, ∀ H3 : Nat → Nat → Int, H3 = m_u H (h_r h0 li 0) (m_u (H (h_r h0 li 0)) (v).toNat ((-1))) → ∀ h6 : MH, ∀ H6 : Nat → Nat → Int, H6 = m_u H3 (h_r h0 li 1) (m_u (H3 (h_r h0 li 1)) (v).toNat (b)) → RX h0 h6 H6 → v ≥ 0 → v < 41 → a ≥ v → b < v → HJ 52 0 (lv_args 0 [.int lx1]) [] h6 (fun v h' => HJ 51 51 lv (v.toList ++ [.int lx1, .ref (h_r h0 li 2)]) h' Q))
    (g4 : ∀ h7 : MH, ∀ H7 : Nat → Nat → Int, H7 = m_u H (h_r h0 li 0) (m_u (H (h_r h0 li 0)) (v).toNat (a)) → ∀ h9 : MH, ∀ H9 : Nat → Nat → Int, H9 = m_u H7 (h_r h0 li 1) (m_u (H7 (h_r h0 li 1)) (v).toNat ((-1))) → RX h0 h9 H9 → v ≥ 0 → v < 41 → a < v → b ≥ v → HJ 52 0 (lv_args 0 [.int lx1]) [] h9 (fun v h' => HJ 51 51 lv (v.toList ++ [.int lx1, .ref (h_r h0 li 2)]) h' Q))
    (g5 : ∀ h7 : MH, ∀ H7 : Nat → Nat → Int, H7 = m_u H (h_r h0 li 0) (m_u (H (h_r h0 li 0)) (v).toNat (a)) → ∀ h10 : MH, ∀ H10 : Nat → Nat → Int, H10 = m_u H7 (h_r h0 li 1) (m_u (H7 (h_r h0 li 1)) (v).toNat (b)) → RX h0 h10 H10 → v ≥ 0 → v < 41 → a < v → b < v → HJ 52 0 (lv_args 0 [.int lx1]) [] h10 (fun v h' => HJ 51 51 lv (v.toList ++ [.int lx1, .ref (h_r h0 li 2)]) h' Q))
    : HJ 51 0 lv [] h Q := by
  refine hI_il (k := 1) rfl e1 rfl ?_ -- 0
  refine hM_zlt (off := 63) (t := 64) rfl lq1 (by decide) rfl (fun c1 => ?_) (fun c1 => ?_) -- 1
  · refine hI_rv rfl rfl ?_
    exact g0 c1
  · refine hI_il (k := 1) rfl e1 rfl ?_ -- 4
    refine hM_bp (n := 41) rfl (by decide) rfl (fun x1 q1 => ?_) -- 5
    refine hM_cge (off := 57) (t := 64) rfl lq1 q1 (by decide) rfl (fun c7 => ?_) (fun c7 => ?_) -- 7
    · refine hI_rv rfl rfl ?_
      exact g1 c1 c7
    · refine hI_al (k := 0) rfl e0 rfl ?_ -- 10
      refine hR_gr (c := 1) (k := 0) M hk0 rfl rfl rfl rfl ?_ -- 11
      refine hI_il (k := 1) rfl e1 rfl ?_ -- 14
      refine hI_il (k := 2) rfl e2 rfl ?_ -- 15
      refine hI_il (k := 1) rfl e1 rfl ?_ -- 16
      refine hM_cge (off := 7) (t := 24) rfl lq2 lq1 (by decide) rfl (fun c17 => ?_) (fun c17 => ?_) -- 17
      · refine hM_ic (n := (-1)) rfl (by decide) rfl (fun x2 q2 => ?_) -- 24
        refine hR_is M hs0 ha0 lq1 q2 (by omega) (by omega) rfl rfl (fun h3 H3 f3 M3 => ?_) -- 25
        refine hI_al (k := 0) rfl e0 rfl ?_ -- 26
        refine hR_gr (c := 1) (k := 1) M3 hk0 rfl rfl rfl rfl ?_ -- 27
        refine hI_il (k := 1) rfl e1 rfl ?_ -- 30
        refine hI_il (k := 3) rfl e3 rfl ?_ -- 31
        refine hI_il (k := 1) rfl e1 rfl ?_ -- 32
        refine hM_cge (off := 7) (t := 40) rfl lq3 lq1 (by decide) rfl (fun c33 => ?_) (fun c33 => ?_) -- 33
        · refine hM_ic (n := (-1)) rfl (by decide) rfl (fun x4 q4 => ?_) -- 40
          refine hR_is M3 hs1 ha1 lq1 q4 (by omega) (by omega) rfl rfl (fun h5 H5 f5 M5 => ?_) -- 41
          refine hI_al (k := 0) rfl e0 rfl ?_ -- 42
          refine hR_gr (c := 1) (k := 2) M5 hk0 rfl rfl rfl rfl ?_ -- 43
          refine hI_il (k := 1) rfl e1 rfl ?_ -- 46
          refine hI_il (k := 1) rfl e1 rfl ?_ -- 47
          refine hM_is0 (as := [.int lx1]) (r := [.int lx1, .ref (h_r h0 li 2)]) rfl rfl (by decide +kernel) rfl rfl rfl rfl rfl ?_ -- 48
          exact g2 h3 H3 f3 h5 H5 f5 M5 c1 c7 c17 c33
        · refine hI_il (k := 3) rfl e3 rfl ?_ -- 36
          refine hI_go (pc' := 41) (off := 4) rfl (by decide) ?_ -- 37
          refine hR_is M3 hs1 ha1 lq1 lq3 (by omega) (by omega) rfl rfl (fun h6 H6 f6 M6 => ?_) -- 41
          refine hI_al (k := 0) rfl e0 rfl ?_ -- 42
          refine hR_gr (c := 1) (k := 2) M6 hk0 rfl rfl rfl rfl ?_ -- 43
          refine hI_il (k := 1) rfl e1 rfl ?_ -- 46
          refine hI_il (k := 1) rfl e1 rfl ?_ -- 47
          refine hM_is0 (as := [.int lx1]) (r := [.int lx1, .ref (h_r h0 li 2)]) rfl rfl (by decide +kernel) rfl rfl rfl rfl rfl ?_ -- 48
          exact g3 h3 H3 f3 h6 H6 f6 M6 c1 c7 c17 c33
      · refine hI_il (k := 2) rfl e2 rfl ?_ -- 20
        refine hI_go (pc' := 25) (off := 4) rfl (by decide) ?_ -- 21
        refine hR_is M hs0 ha0 lq1 lq2 (by omega) (by omega) rfl rfl (fun h7 H7 f7 M7 => ?_) -- 25
        refine hI_al (k := 0) rfl e0 rfl ?_ -- 26
        refine hR_gr (c := 1) (k := 1) M7 hk0 rfl rfl rfl rfl ?_ -- 27
        refine hI_il (k := 1) rfl e1 rfl ?_ -- 30
        refine hI_il (k := 3) rfl e3 rfl ?_ -- 31
        refine hI_il (k := 1) rfl e1 rfl ?_ -- 32
        refine hM_cge (off := 7) (t := 40) rfl lq3 lq1 (by decide) rfl (fun c33 => ?_) (fun c33 => ?_) -- 33
        · refine hM_ic (n := (-1)) rfl (by decide) rfl (fun x8 q8 => ?_) -- 40
          refine hR_is M7 hs1 ha1 lq1 q8 (by omega) (by omega) rfl rfl (fun h9 H9 f9 M9 => ?_) -- 41
          refine hI_al (k := 0) rfl e0 rfl ?_ -- 42
          refine hR_gr (c := 1) (k := 2) M9 hk0 rfl rfl rfl rfl ?_ -- 43
          refine hI_il (k := 1) rfl e1 rfl ?_ -- 46
          refine hI_il (k := 1) rfl e1 rfl ?_ -- 47
          refine hM_is0 (as := [.int lx1]) (r := [.int lx1, .ref (h_r h0 li 2)]) rfl rfl (by decide +kernel) rfl rfl rfl rfl rfl ?_ -- 48
          exact g4 h7 H7 f7 h9 H9 f9 M9 c1 c7 c17 c33
        · refine hI_il (k := 3) rfl e3 rfl ?_ -- 36
          refine hI_go (pc' := 41) (off := 4) rfl (by decide) ?_ -- 37
          refine hR_is M7 hs1 ha1 lq1 lq3 (by omega) (by omega) rfl rfl (fun h10 H10 f10 M10 => ?_) -- 41
          refine hI_al (k := 0) rfl e0 rfl ?_ -- 42
          refine hR_gr (c := 1) (k := 2) M10 hk0 rfl rfl rfl rfl ?_ -- 43
          refine hI_il (k := 1) rfl e1 rfl ?_ -- 46
          refine hI_il (k := 1) rfl e1 rfl ?_ -- 47
          refine hM_is0 (as := [.int lx1]) (r := [.int lx1, .ref (h_r h0 li 2)]) rfl rfl (by decide +kernel) rfl rfl rfl rfl rfl ?_ -- 48
          exact g5 h7 H7 f7 h10 H10 f10 M10 c1 c7 c17 c33
theorem r_la51 {li : Nat} {v a b : Int} (M : RX h0 h H) (e0 : m_lk lv 0 = some (.ref li)) {lx1 : Int32} (e1 : m_lk lv 1 = some (.int lx1)) (lq1 : lx1.toInt = v) {lx2 : Int32} (e2 : m_lk lv 2 = some (.int lx2)) (lq2 : lx2.toInt = a) {lx3 : Int32} (e3 : m_lk lv 3 = some (.int lx3)) (lq3 : lx3.toInt = b) {sx1 : Int32} (sq1 : sx1.toInt = v) {sx2 : Int64}  (hs0 : 16 ≤ li) (hk0 : (h_k h0 li).1 = 2)
    (g0 : HJ 53 0 (lv_args 0 [.ref li, .int lx2]) [] h (fun v h' => HJ 51 56 lv (v.toList ++ [.long sx2, .int sx1, .ref (h_r h0 li 2)]) h' Q))
    : HJ 51 51 lv [.long sx2, .int sx1, .ref (h_r h0 li 2)] h Q := by
  refine hI_al (k := 0) rfl e0 rfl ?_ -- 51
  refine hI_il (k := 2) rfl e2 rfl ?_ -- 52
  refine HJ.call (j := 53) (as := [.ref li, .int lx2]) (rr := [.long sx2, .int sx1, .ref (h_r h0 li 2)]) (pc' := 56) (m_cR (kc := 1) rfl rfl (by decide +kernel) rfl rfl rfl ⟨rfl, by decide +kernel, by decide +kernel⟩ (by decide) hs0 (by rw [M.2.1]; exact hk0)) (by show 2 ≤ m_lc 53; decide +kernel) ?_ -- 53
  exact g0 
theorem r_la56 {li : Nat} {v a b : Int} (M : RX h0 h H) (e0 : m_lk lv 0 = some (.ref li)) {lx1 : Int32} (e1 : m_lk lv 1 = some (.int lx1)) (lq1 : lx1.toInt = v) {lx2 : Int32} (e2 : m_lk lv 2 = some (.int lx2)) (lq2 : lx2.toInt = a) {lx3 : Int32} (e3 : m_lk lv 3 = some (.int lx3)) (lq3 : lx3.toInt = b) {sx1 : Int32} (sq1 : sx1.toInt = v) {sx2 : Int64} {sx3 : Int64}  (hs0 : 16 ≤ li) (hk0 : (h_k h0 li).1 = 2)
    (g0 : HJ 53 0 (lv_args 0 [.ref li, .int lx3]) [] h (fun v h' => HJ 51 62 lv (v.toList ++ [.long (sx2 ||| sx3), .int sx1, .ref (h_r h0 li 2)]) h' Q))
    : HJ 51 56 lv [.long sx3, .long sx2, .int sx1, .ref (h_r h0 li 2)] h Q := by
  refine hI_lor rfl rfl ?_ -- 56
  refine hI_al (k := 0) rfl e0 rfl ?_ -- 57
  refine hI_il (k := 3) rfl e3 rfl ?_ -- 58
  refine HJ.call (j := 53) (as := [.ref li, .int lx3]) (rr := [.long (sx2 ||| sx3), .int sx1, .ref (h_r h0 li 2)]) (pc' := 62) (m_cR (kc := 1) rfl rfl (by decide +kernel) rfl rfl rfl ⟨rfl, by decide +kernel, by decide +kernel⟩ (by decide) hs0 (by rw [M.2.1]; exact hk0)) (by show 2 ≤ m_lc 53; decide +kernel) ?_ -- 59
  exact g0 
theorem r_la62 {li : Nat} {v a b : Int} (M : RX h0 h H) (e0 : m_lk lv 0 = some (.ref li)) {lx1 : Int32} (e1 : m_lk lv 1 = some (.int lx1)) (lq1 : lx1.toInt = v) {lx2 : Int32} (e2 : m_lk lv 2 = some (.int lx2)) (lq2 : lx2.toInt = a) {lx3 : Int32} (e3 : m_lk lv 3 = some (.int lx3)) (lq3 : lx3.toInt = b) {sx1 : Int32} (sq1 : sx1.toInt = v) {sx2 : Int64} {sx3 : Int64} 
    (g0 : HJ 51 63 lv [.long (sx2 ||| sx3), .int sx1, .ref (h_r h0 li 2)] h Q)
    : HJ 51 62 lv [.long sx3, .long sx2, .int sx1, .ref (h_r h0 li 2)] h Q := by
  refine hI_lor rfl rfl ?_ -- 62
  exact g0 
theorem r_sz0 {pa : Nat} {v : Int} (M : RX h0 h H) (e0 : m_lk lv 0 = some (.ref pa)) {lx1 : Int32} (e1 : m_lk lv 1 = some (.int lx1)) (lq1 : lx1.toInt = v)  (hs0 : 16 ≤ pa) (hk0 : (h_k h0 pa).1 = 4)
    (g0 : HJ 57 0 (lv_args 0 [.ref pa, .int lx1]) [] h (fun v h' => HJ 84 5 lv (v.toList ++ []) h' Q))
    : HJ 84 0 lv [] h Q := by
  refine hI_al (k := 0) rfl e0 rfl ?_ -- 0
  refine hI_il (k := 1) rfl e1 rfl ?_ -- 1
  refine HJ.call (j := 57) (as := [.ref pa, .int lx1]) (rr := []) (pc' := 5) (m_cR (kc := 3) rfl rfl (by decide +kernel) rfl rfl rfl ⟨rfl, by decide +kernel, by decide +kernel⟩ (by decide) hs0 (by rw [M.2.1]; exact hk0)) (by show 2 ≤ m_lc 57; decide +kernel) ?_ -- 2
  exact g0 
theorem r_sz5 {pa : Nat} {v z : Int} (M : RX h0 h H) (e0 : m_lk lv 0 = some (.ref pa)) {lx1 : Int32} (e1 : m_lk lv 1 = some (.int lx1)) (lq1 : lx1.toInt = v) {sx0 : Int32} (sq0 : sx0.toInt = z) (pv0 : z ≠ 0 → 0 ≤ v ∧ v ≤ 40) (hk0 : (h_k h0 pa).1 = 4) (ha0 : (h_k h0 (h_r h0 pa 3)).1 = 20) (hl0 : 41 ≤ ((h_k h0 (h_r h0 pa 3)).2 : Int))
    (g0 : ∀ x1 : Int32, x1.toInt = 0 → z = 0 → Q (some (.int x1)) h)
    (g1 : ∀ x2 : Int32, x2.toInt = H (h_r h0 pa 3) (v).toNat → z ≠ 0 → Q (some (.int x2)) h)
    : HJ 84 5 lv [.int sx0] h Q := by
  refine hM_zeq (off := 12) (t := 17) rfl sq0 (by decide) rfl (fun c5 => ?_) (fun c5 => ?_) -- 5
  · refine hM_ic (n := 0) rfl (by decide) rfl (fun x1 q1 => ?_) -- 17
    refine hI_ri rfl rfl ?_ -- 18
    exact g0 x1 q1 c5
  · refine hI_al (k := 0) rfl e0 rfl ?_ -- 8
    refine hR_gr (c := 3) (k := 3) M hk0 rfl rfl rfl rfl ?_ -- 9
    refine hI_il (k := 1) rfl e1 rfl ?_ -- 12
    refine hR_ia M ha0 lq1 (by omega) (by omega) rfl rfl (fun x2 q2 => ?_) -- 13
    have gb2 : -2147483648 ≤ H (h_r h0 pa 3) (v).toNat ∧ H (h_r h0 pa 3) (v).toNat ≤ 2147483647 := by rw [← q2]; exact g_iT _
    refine hI_go (pc' := 18) (off := 4) rfl (by decide) ?_ -- 14
    refine hI_ri rfl rfl ?_ -- 18
    exact g1 x2 q2 c5
theorem r_cr0 {pa : Nat} {v : Int} (M : RX h0 h H) (e0 : m_lk lv 0 = some (.ref pa)) {lx1 : Int32} (e1 : m_lk lv 1 = some (.int lx1)) (lq1 : lx1.toInt = v)  (hs0 : 16 ≤ pa) (hk0 : (h_k h0 pa).1 = 4)
    (g0 : HJ 84 0 (lv_args 0 [.ref pa, .int lx1]) [] h (fun v h' => HJ 83 5 lv (v.toList ++ []) h' Q))
    : HJ 83 0 lv [] h Q := by
  refine hI_al (k := 0) rfl e0 rfl ?_ -- 0
  refine hI_il (k := 1) rfl e1 rfl ?_ -- 1
  refine HJ.call (j := 84) (as := [.ref pa, .int lx1]) (rr := []) (pc' := 5) (m_cR (kc := 3) rfl rfl (by decide +kernel) rfl rfl rfl ⟨rfl, by decide +kernel, by decide +kernel⟩ (by decide) hs0 (by rw [M.2.1]; exact hk0)) (by show 2 ≤ m_lc 84; decide +kernel) ?_ -- 2
  exact g0 
theorem r_cr5 {z : Int} (M : RX h0 h H) {sx0 : Int32} (sq0 : sx0.toInt = z) 
    (g0 : HJ 82 0 (lv_args 0 [.int sx0]) [] h (fun v h' => HJ 83 8 lv (v.toList ++ []) h' Q))
    : HJ 83 5 lv [.int sx0] h Q := by
  refine hM_is0 (as := [.int sx0]) (r := []) rfl rfl (by decide +kernel) rfl rfl rfl rfl rfl ?_ -- 5
  exact g0 
theorem r_cr8 {z : Int} (M : RX h0 h H) {sx0 : Int32} (sq0 : sx0.toInt = z) 
    (g0 : Q (some (.int sx0)) h)
    : HJ 83 8 lv [.int sx0] h Q := by
  refine hI_ri rfl rfl ?_ -- 8
  exact g0 
theorem k_kof {pa ac : Nat} {T : Nat → Int} {N k : Nat} {xk : Int32} (M : RX h0 h H) (ok : ac_ok h0 pa ac) (A : ac_of H ac (h_r h0 ac 0) (h_r h0 ac 1) T N) (N40 : N ≤ 40) (hk : k < N) (qk : xk.toInt = (k : Int)) (g : ∀ x : Int32, x.toInt = T (4 * k) → Q (some (.int x)) h) : HJ 54 0 (lv_args 0 [.ref ac, .int xk]) [] h Q := by
  have a1 := A.1
  refine r_kof M rfl rfl qk (by omega) (by omega) ok.1.1 ok.2.1.1 ok.2.1.2.2 (fun _ _ c => absurd c (by omega)) (fun _ _ _ c => absurd c (by omega)) (fun x q _ _ => g x ?_)
  rw [q, Int.toNat_natCast]
  exact (A.2 k hk).1
theorem k_nof {pa ac : Nat} {T : Nat → Int} {N k i : Nat} {xk xi : Int32} (M : RX h0 h H) (ok : ac_ok h0 pa ac) (A : ac_of H ac (h_r h0 ac 0) (h_r h0 ac 1) T N) (N40 : N ≤ 40) (hk : k < N) (hi : i < 3) (qk : xk.toInt = (k : Int)) (qi : xi.toInt = (i : Int)) (g : ∀ x : Int32, x.toInt = T (4 * k + 1 + i) → Q (some (.int x)) h) : HJ 55 0 (lv_args 0 [.ref ac, .int xk, .int xi]) [] h Q := by
  have a1 := A.1
  refine r_nof M rfl rfl qk rfl qi (by omega) (by omega) (by omega) (by omega) ok.1.1 ok.2.2.1.1 ok.2.2.1.2.2 (fun _ _ c => absurd c (by omega)) (fun _ _ _ c => absurd c (by omega)) (fun _ _ _ _ c => absurd c (by omega)) (fun _ _ _ _ _ c => absurd c (by omega)) (fun x q _ _ _ _ => g x ?_)
  rw [q, show ((k : Int) * 3 + (i : Int)).toNat = 3 * k + i by omega]
  exact (A.2 k hk).2 i hi
-- lines: from which versions
theorem k_bit {v : Int} {xv : Int32} (M : RX h0 h H) (qv : xv.toInt = v) (g : Q (some (.long (bt v))) h) : HJ 52 0 (lv_args 0 [.int xv]) [] h Q := r_bit M rfl qv g
def li_ok (h : MH) (li : Nat) : Prop := ((h_k h li).1 = 2 ∧ 16 ≤ li) ∧ ((h_k h (h_r h li 0)).1 = 20 ∧ 16 ≤ h_r h li 0 ∧ (41 : Int) ≤ ((h_k h (h_r h li 0)).2 : Int)) ∧ ((h_k h (h_r h li 1)).1 = 20 ∧ 16 ≤ h_r h li 1 ∧ (41 : Int) ≤ ((h_k h (h_r h li 1)).2 : Int)) ∧ ((h_k h (h_r h li 2)).1 = 25 ∧ 16 ≤ h_r h li 2 ∧ (41 : Int) ≤ ((h_k h (h_r h li 2)).2 : Int))
theorem k_fo {li : Nat} {v : Int} {xv : Int32} (ok : li_ok h li) (qv : xv.toInt = v) (g : Q (some (.long (fo_of (h_l h (h_r h li 2)) v))) h) : HJ 53 0 (lv_args 0 [.ref li, .int xv]) [] h Q := by
  refine hI_il (k := 1) (x := xv) rfl rfl rfl ?_
  refine hM_zlt (t := 19) rfl qv (by decide) rfl (fun c => ?_) (fun c => ?_)
  · refine hI_lc (n := 0) rfl rfl ?_
    refine hI_rl rfl rfl ?_
    unfold fo_of at g
    rw [if_neg (by omega)] at g
    exact g
  · refine hI_il (k := 1) (x := xv) rfl rfl rfl ?_
    refine hM_bp (n := 41) rfl (by decide) rfl (fun x1 q1 => ?_)
    refine hM_cge (t := 19) rfl qv q1 (by decide) rfl (fun c2 => ?_) (fun c2 => ?_)
    · refine hI_lc (n := 0) rfl rfl ?_
      refine hI_rl rfl rfl ?_
      unfold fo_of at g
      rw [if_neg (by omega)] at g
      exact g
    · refine hI_al (k := 0) (x := li) rfl rfl rfl ?_
      refine hI_gr rfl rfl rfl ok.1.1 rfl ?_
      refine hI_il (k := 1) (x := xv) rfl rfl rfl ?_
      refine hI_la rfl ok.2.2.2.1 (by omega) (by have := ok.2.2.2.2.2; omega) rfl ?_
      refine hI_go (pc' := 20) rfl (by decide) ?_
      refine hI_rl rfl rfl ?_
      unfold fo_of at g
      rw [if_pos (by omega), ← qv] at g
      exact g
theorem k_lines {li : Nat} {v : Nat} {a b : Int} {xv xa xb : Int32} (M : RX h0 h H) (ok : li_ok h0 li) (n01 : h_r h0 li 0 ≠ h_r h0 li 1) (qv : xv.toInt = (v : Int)) (v1 : v ≤ 40) (qa : xa.toInt = a) (qb : xb.toInt = b) (a1 : a < (v : Int)) (b1 : b < (v : Int)) (g : ∀ (h' : MH) (H' : Nat → Nat → Int), RL h0 h' H' (fun q j => if q = h_r h0 li 2 ∧ j = v then bt v ||| fo_of (h_l h0 (h_r h0 li 2)) a ||| fo_of (h_l h0 (h_r h0 li 2)) b else h_l h0 q j) → (∀ q, q ≠ h_r h0 li 0 → q ≠ h_r h0 li 1 → H' q = H q) → H' (h_r h0 li 0) = m_u (H (h_r h0 li 0)) v a → H' (h_r h0 li 1) = m_u (H (h_r h0 li 1)) v b → Q none h') : HJ 51 0 (lv_args 0 [.ref li, .int xv, .int xa, .int xb]) [] h Q := by
  refine r_la0 M rfl rfl qv rfl qa rfl qb (by omega) (by omega) a1 b1 ok.1.1 ok.2.1.1 ok.2.1.2.2 ok.2.1.2.1 ok.2.2.1.1 ok.2.2.1.2.2 ok.2.2.1.2.1 (fun c => absurd c (by omega)) (fun _ c => absurd c (by omega)) (fun _ _ _ _ _ _ _ _ _ c => absurd c (by omega)) (fun _ _ _ _ _ _ _ _ _ c => absurd c (by omega)) (fun _ _ _ _ _ _ _ _ _ _ c => absurd c (by omega)) (fun h7 H7 f7 h10 H10 f10 M10 _ _ _ _ => ?_)
  rw [Int.toNat_natCast] at f7 f10
  have ok10 : li_ok h10 li := by
    unfold li_ok
    rw [M10.2.1, M10.2.2.1.1]
    exact ok
  have r10 : h_r h10 li 2 = h_r h0 li 2 := by rw [M10.2.2.1.1]
  have l10 : h_l h10 = h_l h0 := M10.2.2.1.2
  refine k_bit M10 qv ?_
  refine r_la51 M10 rfl rfl qv rfl qa rfl qb qv ok.1.2 ok.1.1 (k_fo ok10 qa ?_)
  refine r_la56 M10 rfl rfl qv rfl qa rfl qb qv ok.1.2 ok.1.1 (k_fo ok10 qb ?_)
  refine r_la62 M10 rfl rfl qv rfl qa rfl qb qv ?_
  refine hI_ls_ rfl ok.2.2.2.2.1 (by rw [M10.2.1]; exact ok.2.2.2.1) (by omega) (by rw [M10.2.1]; have := ok.2.2.2.2.2; omega) rfl ?_
  rw [r10, l10]
  refine hI_rv rfl rfl (g _ H10 ?_ (fun q h1 h2 => by rw [f10, m_uN _ _ _ _ h2, f7, m_uN _ _ _ _ h1]) (by rw [f10, m_uN _ _ _ _ n01, f7, m_uE]) (by rw [f10, m_uE, f7, m_uN _ _ _ _ (Ne.symm n01)]))
  have R := (RL.ofRX M10).sl (o := h_r h0 li 2) (j := xv.toInt.toNat) (x := bt v ||| fo_of (h_l h0 (h_r h0 li 2)) a ||| fo_of (h_l h0 (h_r h0 li 2)) b)
  rw [qv, Int.toNat_natCast] at R ⊢
  exact R
-- how many trees a version has
theorem k_credit {pa s : Nat} {v : Int} {sz : Nat → Nat} {xv : Int32} (M : RX h0 h H) (ok : pa_ok h0 pa) (es : H pa 11 = (s : Int)) (s40 : s ≤ 40) (Z : ∀ u : Nat, u ≤ s → H (h_r h0 pa 3) u = (sz u : Int) ∧ sz u ≤ 63) (qv : xv.toInt = v) (g : ∀ x : Int32, x.toInt = (if 0 ≤ v ∧ v ≤ (s : Int) then (p_bc (sz v.toNat) : Int) else 0) → Q (some (.int x)) h) : HJ 83 0 (lv_args 0 [.ref pa, .int xv]) [] h Q := by
  obtain ⟨z1, z2, -, z4, -⟩ := ok.2.2.2.2.2.2.1 12 (by decide)
  have n12 : pa_n 12 = 41 := rfl
  have e12 : pa_w h0 pa 12 = h_r h0 pa 3 := rfl
  rw [e12] at z1 z2 z4
  refine r_cr0 M rfl rfl qv ok.1.2.1 ok.1.1 ?_
  refine r_sz0 M rfl rfl qv ok.1.2.1 ok.1.1 (k_has M ok.1.1 qv (fun xz hz => ?_))
  have done : ∀ (xs : Int32) (n : Nat), xs.toInt = (n : Int) → n ≤ 63 → (p_bc n : Int) = (if 0 ≤ v ∧ v ≤ (s : Int) then (p_bc (sz v.toNat) : Int) else 0) → HJ 83 5 (lv_args 0 [.ref pa, .int xv]) ((some (Value.int xs)).toList ++ []) h Q := fun xs n q1 q2 q3 => r_cr5 M q1 (k_bc q1 q2 (fun w qw => r_cr8 M qw (g w (by rw [qw]; exact q3))))
  refine r_sz5 M rfl rfl qv rfl (fun c => by rcases hz with z | z <;> omega) ok.1.1 z1 (by omega) (fun x1 q1 c => ?_) (fun x2 q2 c => ?_)
  · refine done x1 0 q1 (by decide) ?_
    rw [if_neg (by rcases hz with z | z <;> omega)]
    rfl
  · have hv : 0 ≤ v ∧ v ≤ (s : Int) := by rcases hz with z | z <;> omega
    obtain ⟨u1, u2⟩ := Z v.toNat (by omega)
    refine done x2 (sz v.toNat) (q2.trans u1) u2 ?_
    rw [if_pos hv]
end
