-- WEIGHTS TAKEN APART
section
variable {i pc pc' : Nat} {lv : List (Nat × Value)} {st : List Value} {h : MH} {Q : Option Value → MH → Prop}
theorem hM_divx {x y : Int32} {zx zy : Int} (a : m_at i pc = some (.idiv, 1)) (hx : x.toInt = zx) (hy : y.toInt = zy) (b0 : 0 ≤ zx) (b1 : 0 < zy) (hp : pc + 1 = pc') (g : ∀ w : Int32, w.toInt = zx / zy → HJ i pc' lv (.int w :: st) h Q) : HJ i pc lv (.int y :: .int x :: st) h Q := by
  subst hp hx hy
  have yn : ¬ y = 0 := fun z => by
    rw [z] at b1
    exact absurd b1 (by decide)
  have e := i_div x y b0 b1
  exact HJ.ex a (Or.inl rfl) (by show (if y = 0 then none else _) = _; rw [if_neg yn]; rfl) (g (x / y) e)
theorem hM_remx {x y : Int32} {zx zy : Int} (a : m_at i pc = some (.irem, 1)) (hx : x.toInt = zx) (hy : y.toInt = zy) (b0 : 0 ≤ zx) (b1 : 0 < zy) (hp : pc + 1 = pc') (g : ∀ w : Int32, w.toInt = zx % zy → HJ i pc' lv (.int w :: st) h Q) : HJ i pc lv (.int y :: .int x :: st) h Q := by
  subst hp hx hy
  have yn : ¬ y = 0 := fun z => by
    rw [z] at b1
    exact absurd b1 (by decide)
  have xT : -2147483648 ≤ x.toInt ∧ x.toInt ≤ 2147483647 := g_iT x
  have e := i_div x y b0 b1
  have d0 : 0 ≤ x.toInt / y.toInt := Int.ediv_nonneg b0 (by omega)
  have d1 := Int.emod_nonneg x.toInt (show y.toInt ≠ 0 by omega)
  have d2 := Int.emod_lt_of_pos x.toInt b1
  have d3 := Int.mul_ediv_add_emod x.toInt y.toInt
  have e2 : (x / y * y).toInt = y.toInt * (x.toInt / y.toInt) := by
    rw [i_mul _ _ (by rw [e, Int.mul_comm]; have := Int.mul_nonneg (show 0 ≤ y.toInt by omega) d0; omega) (by rw [e, Int.mul_comm]; omega), e, Int.mul_comm]
  have d4 : 0 ≤ y.toInt * (x.toInt / y.toInt) := Int.mul_nonneg (by omega) d0
  have e3 : (x - x / y * y).toInt = x.toInt % y.toInt := by
    rw [i_sub _ _ (by rw [e2]; omega) (by rw [e2]; omega), e2]
    omega
  exact HJ.ex a (Or.inl rfl) (by show (if y = 0 then none else _) = _; rw [if_neg yn]; rfl) (g _ e3)
end
section
variable {lv : List (Nat × Value)} {Q : Option Value → MH → Prop} {h0 h : MH} {H : Nat → Nat → Int}
theorem k_thIn {x : Int32} {y t : Int} (q : x.toInt = 128 * y + t) (t0 : 0 ≤ t) (t1 : t ≤ 127) (y0 : 0 ≤ y) (g : ∀ w : Int32, w.toInt = t → Q (some (.int w)) h) : HJ 77 0 (lv_args 0 [.int x]) [] h Q := by
  refine hI_il (k := 0) (x := x) rfl rfl rfl ?_
  refine hM_sp (n := 128) rfl (by decide) rfl (fun x1 q1 => ?_)
  refine hM_remx rfl q q1 (by omega) (by omega) rfl (fun w qw => ?_)
  exact hI_ri rfl rfl (g w (by omega))
theorem k_keyIn {x : Int32} {y t : Int} (q : x.toInt = 128 * y + t) (t0 : 0 ≤ t) (t1 : t ≤ 127) (y0 : 0 ≤ y) (g : ∀ w : Int32, w.toInt = y → Q (some (.int w)) h) : HJ 78 0 (lv_args 0 [.int x]) [] h Q := by
  refine hI_il (k := 0) (x := x) rfl rfl rfl ?_
  refine hM_sp (n := 128) rfl (by decide) rfl (fun x1 q1 => ?_)
  refine hM_divx rfl q q1 (by omega) (by omega) rfl (fun w qw => ?_)
  exact hI_ri rfl rfl (g w (by omega))
theorem k_weigh {xt xy : Int32} {y t : Int} (qt : xt.toInt = t) (qy : xy.toInt = y) (t0 : 0 ≤ t) (t1 : t ≤ 127) (y0 : 0 ≤ y) (y1 : y ≤ 99) (g : ∀ w : Int32, w.toInt = 128 * y + t → Q (some (.int w)) h) : HJ 60 0 (lv_args 0 [.int xt, .int xy]) [] h Q := by
  refine hI_il (k := 1) (x := xy) rfl rfl rfl ?_
  refine hM_sp (n := 128) rfl (by decide) rfl (fun x1 q1 => ?_)
  refine hM_mul rfl qy q1 (by omega) (by omega) rfl (fun x2 q2 => ?_)
  refine hI_il (k := 0) (x := xt) rfl rfl rfl ?_
  refine hM_add rfl q2 qt (by omega) (by omega) rfl (fun x3 q3 => ?_)
  exact hI_ri rfl rfl (g x3 (by omega))
end
-- THE LEAST ONE TAKEN
theorem pm_leL {S : PSt} {f : Nat → Int} : ∀ r, g_lst f r (pm_le S f r)
  | 0 => Or.inl ⟨rfl, fun k hk => absurd hk (by omega)⟩
  | r + 1 => by
    rw [pm_le]
    by_cases c : f r ≠ -1 ∧ (pm_le S f r = -1 ∨ ps_ls S (f r) (f (pm_le S f r).toNat))
    · rw [if_pos c]
      exact Or.inr ⟨by omega, by omega, by rw [Int.toNat_natCast]; exact c.1⟩
    · rw [if_neg c]
      rcases pm_leL (S := S) (f := f) r with ⟨z1, z2⟩ | ⟨z1, z2, z3⟩
      · refine Or.inl ⟨z1, fun k hk => ?_⟩
        by_cases e : k = r
        · subst e
          by_cases q : f k = -1
          · exact q
          · exact absurd ⟨q, Or.inl z1⟩ c
        · exact z2 k (by omega)
      · exact Or.inr ⟨z1, by omega, z3⟩
def pm_lo (S : PSt) (f : Nat → Int) : Nat → Int := fun i => if (i : Int) < pm_le S f 6 then ps_b S (6 * (f (pm_le S f 6).toNat).toNat + i) else -1
theorem pm_tk0 {S : PSt} {f : Nat → Int} (e : pm_le S f 6 = -1) : pm_tk (S, f) = (S, f) := if_pos e
theorem pm_tk1 {S : PSt} {f : Nat → Int} (e : pm_le S f 6 ≠ -1) : pm_tk (S, f) = pm_md S (m_u f (pm_le S f 6).toNat (-1)) (pm_lo S f) := if_neg e
theorem pm_loI {S : PSt} {f : Nat → Int} (sh : ps_sh S) (hf : hp_in S f) (w : p_ws f 6 ≤ 63) (e : pm_le S f 6 ≠ -1) : hp_in S (pm_lo S f) ∧ hp_in S (m_u f (pm_le S f 6).toNat (-1)) ∧ p_ws (m_u f (pm_le S f 6).toNat (-1)) 6 + p_ws (pm_lo S f) 6 + 1 = p_ws f 6 := by
  obtain ⟨l0, l1, l2⟩ := (pm_leL (S := S) (f := f) 6).resolve_left (fun z => e z.1)
  have l1 : pm_le S f 6 < 6 := by omega
  obtain ⟨r0, r1, r2⟩ := (hf _ (by omega)).resolve_left l2
  have kr : ps_k S (f (pm_le S f 6).toNat).toNat = pm_le S f 6 := by rw [r2]; omega
  have ch := (sh (f (pm_le S f 6).toNat).toNat (by omega)).2
  have ne : ∀ k : Nat, k < (pm_le S f 6).toNat → pm_lo S f k = ps_b S (6 * (f (pm_le S f 6).toNat).toNat + k) := fun k hk => if_pos (by omega)
  refine ⟨fun q hq => ?_, pm_hp hf (Or.inl rfl), ?_⟩
  · by_cases c : (q : Int) < pm_le S f 6
    · rw [ne q (by omega)]
      exact Or.inr (ch q (by rw [kr]; exact c))
    · exact Or.inl (if_neg c)
  · have a := p_wsG l2 (r := 6) (by omega)
    have b := p_ws0 (f := pm_lo S f) (q := (pm_le S f 6).toNat) (r := 6) (by omega) (fun k h1 _ => if_neg (by omega))
    have c := p_ws1 (f := pm_lo S f) (r := (pm_le S f 6).toNat) (fun k hk => by
      rw [ne k hk]
      have := (ch k (by rw [kr]; omega)).1
      omega)
    omega
theorem pm_tkI {S : PSt} {f : Nat → Int} (sh : ps_sh S) (hf : hp_in S f) (w : p_ws f 6 ≤ 63) (e : pm_le S f 6 ≠ -1) : ps_sh (pm_tk (S, f)).1 ∧ hp_in (pm_tk (S, f)).1 (pm_tk (S, f)).2 ∧ ps_ex S (pm_tk (S, f)).1 ∧ ps_n (pm_tk (S, f)).1 ≤ ps_n S + 6 ∧ p_ws (pm_tk (S, f)).2 6 + 1 = p_ws f 6 := by
  obtain ⟨a, b, c⟩ := pm_loI sh hf w e
  rw [pm_tk1 e]
  obtain ⟨m1, m2, m3, m4, m5⟩ := pm_mdI sh b a (by omega)
  exact ⟨m1, m2, m3, m4, by omega⟩
section
variable {lv : List (Nat × Value)} {Q : Option Value → MH → Prop} {h0 h : MH} {H : Nat → Nat → Int}
theorem r_tl0 {nd hp : Nat} (M : RX h0 h H) (e0 : m_lk lv 0 = some (.ref nd)) (e1 : m_lk lv 1 = some (.ref hp))  (hs0 : 16 ≤ nd) (hk0 : (h_k h0 nd).1 = 3)
    (g0 : HJ 72 0 (lv_args 0 [.ref nd, .ref hp]) [] h (fun v h' => HJ 71 5 lv (v.toList ++ []) h' Q))
    : HJ 71 0 lv [] h Q := by
  refine hI_al (k := 0) rfl e0 rfl ?_ -- 0
  refine hI_al (k := 1) rfl e1 rfl ?_ -- 1
  refine HJ.call (j := 72) (as := [.ref nd, .ref hp]) (rr := []) (pc' := 5) (m_cR (kc := 2) rfl rfl (by decide +kernel) rfl rfl rfl ⟨rfl, by decide +kernel, by decide +kernel⟩ (by decide) hs0 (by rw [M.2.1]; exact hk0)) (by show 2 ≤ m_lc 72; decide +kernel) ?_ -- 2
  exact g0 
theorem r_tl5 {nd hp : Nat} {k : Int} (M : RX h0 h H) (e0 : m_lk lv 0 = some (.ref nd)) (e1 : m_lk lv 1 = some (.ref hp)) {sx0 : Int32} (sq0 : sx0.toInt = k) (k0 : -1 ≤ k) (k1 : k ≤ 5) (ha0 : (h_k h0 hp).1 = 20) (hl0 : 6 ≤ ((h_k h0 hp).2 : Int)) (hs0 : 16 ≤ hp) (hk0 : (h_k h0 nd).1 = 3)
    (g0 : ∀ x3 : Int32, x3.toInt = H hp (k).toNat → ∀ h6 : MH, ∀ H6 : Nat → Nat → Int, H6 = m_u H hp (m_u (H hp) (k).toNat ((-1))) → ∀ x7 : Int32, x7.toInt = (-1) → ∀ lv4 : List (Nat × Value), RX h0 h6 H6 → m_lk lv4 0 = some (.ref nd) → m_lk lv4 1 = some (.ref hp) → m_lk lv4 2 = some (.int sx0) → m_lk lv4 3 = some (.int x3) → k ≠ (-1) → HJ 48 0 (lv_args 0 [.ref (h_r h0 nd 2), .int x7]) [] h6 (fun v h' => HJ 71 29 lv4 (v.toList ++ []) h' Q))
    (g1 : ∀ x8 : Int32, x8.toInt = 0 → ∀ lv1 : List (Nat × Value), k = (-1) → Q (some (.int x8)) h)
    : HJ 71 5 lv [.int sx0] h Q := by
  refine hM_si (k := 2) rfl (by decide +kernel) rfl (fun lv1 e1_2 u1 => ?_) -- 5
  have e1_0 := u1 0 _ (by decide) (Or.inl rfl) e0
  have e1_1 := u1 1 _ (by decide) (Or.inl rfl) e1
  refine hI_il (k := 2) rfl e1_2 rfl ?_ -- 6
  refine hM_ic (n := (-1)) rfl (by decide) rfl (fun x2 q2 => ?_) -- 7
  refine hM_cne (off := 5) (t := 13) rfl sq0 q2 (by decide) rfl (fun c8 => ?_) (fun c8 => ?_) -- 8
  · refine hI_al (k := 1) rfl e1_1 rfl ?_ -- 13
    refine hI_il (k := 2) rfl e1_2 rfl ?_ -- 14
    refine hR_ia M ha0 sq0 (by omega) (by omega) rfl rfl (fun x3 q3 => ?_) -- 15
    have gb3 : -2147483648 ≤ H hp (k).toNat ∧ H hp (k).toNat ≤ 2147483647 := by rw [← q3]; exact g_iT _
    refine hM_si (k := 3) rfl (by decide +kernel) rfl (fun lv4 e4_3 u4 => ?_) -- 16
    have e4_0 := u4 0 _ (by decide) (Or.inl rfl) e1_0
    have e4_1 := u4 1 _ (by decide) (Or.inl rfl) e1_1
    have e4_2 := u4 2 _ (by decide) (Or.inl rfl) e1_2
    refine hI_al (k := 1) rfl e4_1 rfl ?_ -- 17
    refine hI_il (k := 2) rfl e4_2 rfl ?_ -- 18
    refine hM_ic (n := (-1)) rfl (by decide) rfl (fun x5 q5 => ?_) -- 19
    refine hR_is M hs0 ha0 sq0 q5 (by omega) (by omega) rfl rfl (fun h6 H6 f6 M6 => ?_) -- 20
    refine hI_al (k := 0) rfl e4_0 rfl ?_ -- 21
    refine hR_gr (c := 2) (k := 2) M6 hk0 rfl rfl rfl rfl ?_ -- 22
    refine hM_ic (n := (-1)) rfl (by decide) rfl (fun x7 q7 => ?_) -- 25
    refine hM_is0 (as := [.ref (h_r h0 nd 2), .int x7]) (r := []) rfl rfl (by decide +kernel) rfl rfl rfl rfl rfl ?_ -- 26
    exact g0 x3 q3 h6 H6 f6 x7 q7 lv4 M6 e4_0 e4_1 e4_2 e4_3 c8
  · refine hM_ic (n := 0) rfl (by decide) rfl (fun x8 q8 => ?_) -- 11
    refine hM_rb rfl rfl q8 (by omega) (by omega) ?_ -- 12
    exact g1 x8 q8 lv1 c8
theorem r_tl29 {nd hp : Nat} {k t : Int} (M : RX h0 h H) (e0 : m_lk lv 0 = some (.ref nd)) (e1 : m_lk lv 1 = some (.ref hp)) {lx2 : Int32} (e2 : m_lk lv 2 = some (.int lx2)) (lq2 : lx2.toInt = k) {lx3 : Int32} (e3 : m_lk lv 3 = some (.int lx3)) (lq3 : lx3.toInt = t) 
    (g0 : ∀ x1 : Int32, x1.toInt = 0 → ∀ lv2 : List (Nat × Value), m_lk lv2 0 = some (.ref nd) → m_lk lv2 1 = some (.ref hp) → m_lk lv2 2 = some (.int lx2) → m_lk lv2 3 = some (.int lx3) → m_lk lv2 4 = some (.int x1) → HJ 71 32 lv2 [] h Q)
    : HJ 71 29 lv [] h Q := by
  refine hM_ic (n := 0) rfl (by decide) rfl (fun x1 q1 => ?_) -- 29
  refine hM_si2 (k := 4) rfl (by decide +kernel) rfl (fun lv2 e2_4 u2 => ?_) -- 30
  have e2_0 := u2 0 _ (by decide) (Or.inl rfl) e0
  have e2_1 := u2 1 _ (by decide) (Or.inl rfl) e1
  have e2_2 := u2 2 _ (by decide) (Or.inl rfl) e2
  have e2_3 := u2 3 _ (by decide) (Or.inl rfl) e3
  exact g0 x1 q1 lv2 e2_0 e2_1 e2_2 e2_3 e2_4
theorem r_tl32 {nd hp : Nat} {k t j : Int} (M : RX h0 h H) (e0 : m_lk lv 0 = some (.ref nd)) (e1 : m_lk lv 1 = some (.ref hp)) {lx2 : Int32} (e2 : m_lk lv 2 = some (.int lx2)) (lq2 : lx2.toInt = k) {lx3 : Int32} (e3 : m_lk lv 3 = some (.int lx3)) (lq3 : lx3.toInt = t) {lx4 : Int32} (e4 : m_lk lv 4 = some (.int lx4)) (lq4 : lx4.toInt = j) (j0 : 0 ≤ j) (k1 : k ≤ 5) (hk0 : (h_k h0 nd).1 = 3) (hs0 : 16 ≤ nd)
    (g0 : j ≥ k → HJ 64 0 (lv_args 0 [.ref nd, .ref hp, .ref (h_r h0 nd 2)]) [] h (fun v h' => HJ 71 71 lv (v.toList ++ []) h' Q))
    (g1 : ∀ x3 : Int32, x3.toInt = (k - 1) - j → j < k → HJ 69 0 (lv_args 0 [.ref nd, .int lx3, .int x3]) [] h (fun v h' => HJ 71 55 lv (v.toList ++ [.int lx4, .ref (h_r h0 nd 2)]) h' Q))
    : HJ 71 32 lv [] h Q := by
  refine hI_il2 (k := 4) rfl e4 rfl ?_ -- 32
  refine hI_il (k := 2) rfl e2 rfl ?_ -- 34
  refine hM_cge (off := 27) (t := 62) rfl lq4 lq2 (by decide) rfl (fun c35 => ?_) (fun c35 => ?_) -- 35
  · refine hI_al (k := 0) rfl e0 rfl ?_ -- 62
    refine hI_al (k := 1) rfl e1 rfl ?_ -- 63
    refine hI_al (k := 0) rfl e0 rfl ?_ -- 64
    refine hR_gr (c := 2) (k := 2) M hk0 rfl rfl rfl rfl ?_ -- 65
    refine HJ.call (j := 64) (as := [.ref nd, .ref hp, .ref (h_r h0 nd 2)]) (rr := []) (pc' := 71) (m_cR (kc := 2) rfl rfl (by decide +kernel) rfl rfl rfl ⟨rfl, by decide +kernel, by decide +kernel⟩ (by decide) hs0 (by rw [M.2.1]; exact hk0)) (by show 3 ≤ m_lc 64; decide +kernel) ?_ -- 68
    exact g0 c35
  · refine hI_al (k := 0) rfl e0 rfl ?_ -- 38
    refine hR_gr (c := 2) (k := 2) M hk0 rfl rfl rfl rfl ?_ -- 39
    refine hI_il2 (k := 4) rfl e4 rfl ?_ -- 42
    refine hI_al (k := 0) rfl e0 rfl ?_ -- 44
    refine hI_il (k := 3) rfl e3 rfl ?_ -- 45
    refine hI_il (k := 2) rfl e2 rfl ?_ -- 46
    refine hM_ic (n := 1) rfl (by decide) rfl (fun x1 q1 => ?_) -- 47
    refine hM_sub rfl lq2 q1 (by omega) (by omega) rfl (fun x2 q2 => ?_) -- 48
    refine hI_il2 (k := 4) rfl e4 rfl ?_ -- 49
    refine hM_sub rfl q2 lq4 (by omega) (by omega) rfl (fun x3 q3 => ?_) -- 51
    refine HJ.call (j := 69) (as := [.ref nd, .int lx3, .int x3]) (rr := [.int lx4, .ref (h_r h0 nd 2)]) (pc' := 55) (m_cR (kc := 2) rfl rfl (by decide +kernel) rfl rfl rfl ⟨rfl, by decide +kernel, by decide +kernel⟩ (by decide) hs0 (by rw [M.2.1]; exact hk0)) (by show 3 ≤ m_lc 69; decide +kernel) ?_ -- 52
    exact g1 x3 q3 c35
theorem r_tl55 {nd hp : Nat} {k t j p c : Int} (M : RX h0 h H) (e0 : m_lk lv 0 = some (.ref nd)) (e1 : m_lk lv 1 = some (.ref hp)) {lx2 : Int32} (e2 : m_lk lv 2 = some (.int lx2)) (lq2 : lx2.toInt = k) {lx3 : Int32} (e3 : m_lk lv 3 = some (.int lx3)) (lq3 : lx3.toInt = t) {lx4 : Int32} (e4 : m_lk lv 4 = some (.int lx4)) (lq4 : lx4.toInt = j) {sx1 : Int32} (sq1 : sx1.toInt = p) {sx2 : Int32} (sq2 : sx2.toInt = c) (p0 : 0 ≤ p) (p1 : p ≤ 5) (j0 : 0 ≤ j) (j1 : j ≤ 5) (ha0 : (h_k h0 (h_r h0 nd 2)).1 = 20) (hl0 : 6 ≤ ((h_k h0 (h_r h0 nd 2)).2 : Int)) (hs0 : 16 ≤ h_r h0 nd 2)
    (g0 : ∀ h1 : MH, ∀ H1 : Nat → Nat → Int, H1 = m_u H (h_r h0 nd 2) (m_u (H (h_r h0 nd 2)) (p).toNat (c)) → ∀ x2 : Int32, x2.toInt = j + 1 → ∀ lv2 : List (Nat × Value), RX h0 h1 H1 → m_lk lv2 0 = some (.ref nd) → m_lk lv2 1 = some (.ref hp) → m_lk lv2 2 = some (.int lx2) → m_lk lv2 3 = some (.int lx3) → m_lk lv2 4 = some (.int x2) → HJ 71 32 lv2 [] h1 Q)
    : HJ 71 55 lv [.int sx2, .int sx1, .ref (h_r h0 nd 2)] h Q := by
  refine hR_is M hs0 ha0 sq1 sq2 (by omega) (by omega) rfl rfl (fun h1 H1 f1 M1 => ?_) -- 55
  refine hM_inc (k := 4) (z := 1) rfl e4 lq4 (by decide) (by omega) (by omega) (by decide +kernel) rfl (fun lv2 x2 q2 e2_4 u2 => ?_) -- 56
  have e2_0 := u2 0 _ (by decide) (Or.inl rfl) e0
  have e2_1 := u2 1 _ (by decide) (Or.inl rfl) e1
  have e2_2 := u2 2 _ (by decide) (Or.inl rfl) e2
  have e2_3 := u2 3 _ (by decide) (Or.inl rfl) e3
  refine hI_go (pc' := 32) (off := (-27)) rfl (by decide) ?_ -- 59
  exact g0 h1 H1 f1 x2 q2 lv2 M1 e2_0 e2_1 e2_2 e2_3 e2_4
theorem r_tl71 (M : RX h0 h H)  
    (g0 : ∀ x1 : Int32, x1.toInt = 1 → Q (some (.int x1)) h)
    : HJ 71 71 lv [] h Q := by
  refine hM_ic (n := 1) rfl (by decide) rfl (fun x1 q1 => ?_) -- 71
  refine hM_rb rfl rfl q1 (by omega) (by omega) ?_ -- 72
  exact g0 x1 q1
theorem l_tlC {nd hp : Nat} {S : PSt} {k t : Nat} {xk xt : Int32} (ok : nl_ok h0 nd) (lo : ap_ok h0 nd (h_r h0 nd 2)) (ho : ap_ok h0 nd hp) (dl : h_r h0 nd 2 ≠ hp) (I : cs_of h0 (z_i h0) nd S) (k5 : k ≤ 5) (tn : t < ps_n S) (kt : ps_k S t = (k : Int)) (qk : xk.toInt = (k : Int)) (qt : xt.toInt = (t : Int)) (g : ∀ (lv : List (Nat × Value)) (h' : MH) (H' : Nat → Nat → Int), RX h0 h' H' → (∀ a, a ≠ h_r h0 nd 2 → a ≠ hp → H' a = z_i h0 a) → H' hp = m_u (z_i h0 hp) k (-1) → (∀ q : Nat, q < 6 → H' (h_r h0 nd 2) q = if (q : Int) < (k : Int) then ps_b S (6 * t + q) else -1) → HJ 64 0 (lv_args 0 [.ref nd, .ref hp, .ref (h_r h0 nd 2)]) [] h' (fun v h' => HJ 71 71 lv (v.toList ++ []) h' Q)) : ∀ (e j : Nat) (lv : List (Nat × Value)) (h : MH) (H : Nat → Nat → Int) (xj : Int32), j + e = k → xj.toInt = (j : Int) → RX h0 h H → (∀ a, a ≠ h_r h0 nd 2 → a ≠ hp → H a = z_i h0 a) → H hp = m_u (z_i h0 hp) k (-1) → (∀ q : Nat, q < 6 → H (h_r h0 nd 2) q = if (q : Int) < (j : Int) then ps_b S (6 * t + q) else -1) → m_lk lv 0 = some (.ref nd) → m_lk lv 1 = some (.ref hp) → m_lk lv 2 = some (.int xk) → m_lk lv 3 = some (.int xt) → m_lk lv 4 = some (.int xj) → HJ 71 32 lv [] h Q := by
  obtain ⟨la, lb, lc⟩ := nl_ap ok lo.1.1 lo.2.2
  obtain ⟨pa, pb, pc⟩ := nl_ap ok ho.1.1 ho.2.2
  obtain ⟨i1, i2, i3, i4, i5⟩ := I
  obtain ⟨-, -, -, -, k5', kc⟩ := i5 t tn
  intro e
  induction e with
  | zero =>
    intro j lv h H xj he hj M p1 p2 p3 e0 e1 e2 e3 e4
    exact r_tl32 M e0 e1 e2 qk e3 qt e4 hj (by omega) (by omega) ok.1.1 ok.1.2.1 (fun _ => g lv h H M p1 p2 (fun q hq => by rw [p3 q hq, show j = k by omega])) (fun _ _ c => absurd c (by omega))
  | succ e ih =>
    intro j lv h H xj he hj M p1 p2 p3 e0 e1 e2 e3 e4
    refine r_tl32 M e0 e1 e2 qk e3 qt e4 hj (by omega) (by omega) ok.1.1 ok.1.2.1 (fun c => absurd c (by omega)) (fun x3 q3 _ => ?_)
    have hn : H nd = z_i h0 nd := p1 nd (Ne.symm la) (Ne.symm pa)
    have hC : H (h_r h0 nd 0) = z_i h0 (h_r h0 nd 0) := p1 _ (Ne.symm lb) (Ne.symm pb)
    have J : cs_of h0 H nd S := cs_mv (h1 := h0) ⟨i1, i2, i3, i4, i5⟩ (by rw [hn]) (by rw [hn]) (fun q _ => by rw [hC])
    refine k_ch (r := j) M (nl_nd ok i1) J qt q3 (by omega) (by omega) (by rw [Int.toNat_natCast, kt]; omega) (by rw [Int.toNat_natCast, kt]) (fun xc qc => ?_)
    rw [Int.toNat_natCast] at qc
    refine r_tl55 M e0 e1 e2 qk e3 qt e4 hj hj qc (by omega) (by omega) (by omega) (by omega) lo.1.1 lo.1.2.2 lo.1.2.1 (fun h1 H1 f1 x2 q2 lv2 M1 a0 a1 a2 a3 a4 => ?_)
    rw [Int.toNat_natCast] at f1
    refine ih (j + 1) lv2 h1 H1 x2 (by omega) (by omega) M1 (fun a ha hb => by rw [f1, m_uN _ _ _ _ ha]; exact p1 a ha hb) (by rw [f1, m_uN _ _ _ _ (Ne.symm dl)]; exact p2) (fun q hq => ?_) a0 a1 a2 a3 a4
    rw [f1, m_uE]
    by_cases z : q = j
    · rw [z, m_uE, if_pos (by omega)]
    · rw [m_uN _ _ _ _ z, p3 q hq]
      by_cases c : (q : Int) < (j : Int)
      · rw [if_pos c, if_pos (by omega)]
      · rw [if_neg c, if_neg (by omega)]
theorem k_take {nd hp : Nat} {S : PSt} {f : Nat → Int} (ok : nl_ok h nd) (ho : ap_ok h nd hp) (lo : ap_ok h nd (h_r h nd 2)) (lb : (h_k h (h_r h nd 2)).2 ≤ 1000000) (dl : h_r h nd 2 ≠ hp) (I : cs_of h (z_i h) nd S) (ef : hp6 (z_i h hp) f) (sh : ps_sh S) (hf : hp_in S f) (w : p_ws f 6 ≤ 63) (cap : ps_n S + 6 ≤ 16000) (g : ∀ (x : Int32) (h' : MH), (x.toInt = 0 ∧ pm_le S f 6 = -1) ∨ (x.toInt = 1 ∧ pm_le S f 6 ≠ -1) → nl_ok h' nd → cs_of h' (z_i h') nd (pm_tk (S, f)).1 → hp6 (z_i h' hp) (pm_tk (S, f)).2 → FX nd (fun a => a = hp ∨ a = h_r h nd 2) h h' → Q (some (.int x)) h') : HJ 71 0 (lv_args 0 [.ref nd, .ref hp]) [] h Q := by
  have M := RX.start h
  have nok := nl_nd ok I.1
  refine r_tl0 M rfl rfl ok.1.2.1 ok.1.1 (k_least M nok I ho.1 ef hf (fun xk qk => ?_))
  have L := pm_leL (S := S) (f := f) 6
  have L1 : -1 ≤ pm_le S f 6 ∧ pm_le S f 6 ≤ 5 := by
    rcases L with z | z <;> omega
  refine r_tl5 M rfl rfl qk L1.1 L1.2 ho.1.1 ho.1.2.2 ho.1.2.1 ok.1.1 (fun x3 q3 h6 H6 f6 x7 q7 lv4 M6 e0 e1 e2 e3 c => ?_) (fun x8 q8 lv1 c => g x8 h (Or.inl ⟨q8, c⟩) ok (by rw [pm_tk0 c]; exact I) (by rw [pm_tk0 c]; exact ef) FX.same)
  obtain ⟨l0, l1, l2⟩ := L.resolve_left (fun z => c z.1)
  obtain ⟨a1, a2, a3⟩ := pm_loI sh hf w c
  have q3 : x3.toInt = f (pm_le S f 6).toNat := q3.trans (ef _ (by omega))
  obtain ⟨r0, r1, r2⟩ := (hf _ (by omega)).resolve_left l2
  obtain ⟨la, lb_, lc⟩ := nl_ap ok lo.1.1 lo.2.2
  obtain ⟨pa, pb, pc⟩ := nl_ap ok ho.1.1 ho.2.2
  refine k_fill M6 lo.1.1 lo.1.2.1 lb q7 (fun h7 H7 M7 p1 p2 => ?_)
  refine r_tl29 M7 e0 e1 e2 qk e3 q3 (fun xj qj lv5 d0 d1 d2 d3 d4 => ?_)
  have lo3 := lo.1.2.2
  refine l_tlC (k := (pm_le S f 6).toNat) (t := (f (pm_le S f 6).toNat).toNat) ok lo ho dl I (by omega) (by omega) r2 (by omega) (by omega) (fun lv6 h8 H8 M8 s1 s2 s3 => ?_) (pm_le S f 6).toNat 0 lv5 h7 H7 xj (by omega) qj M7 (fun a ha hb => by rw [p1 a ha, f6, m_uN _ _ _ _ hb]; rfl) (by rw [p1 hp (Ne.symm dl), f6, m_uE]; rfl) (fun q hq => by rw [p2 q (by omega), if_neg (by omega)]) d0 d1 d2 d3 d4
  have r8 : h_r h8 = h_r h := M8.2.2.1.1
  have k8 : h_k h8 = h_k h := M8.2.1
  have n8 : h_n h8 = h_n h := by
    have := M8.1
    unfold h_n
    rw [this]
  have F8 : FX nd (fun a => a = hp ∨ a = h_r h nd 2) h h8 := FX.ofRX M8 (by rw [s1 nd (Ne.symm la) (Ne.symm pa)]) (fun a ha j => by
    rw [s1 a (fun z => ha (Or.inr (Or.inr (Or.inr (Or.inr z))))) (fun z => ha (Or.inr (Or.inr (Or.inr (Or.inl z)))))])
  have ok8 : nl_ok h8 nd := nl_RX ok M8 (by rw [s1 nd (Ne.symm la) (Ne.symm pa)])
  have I8 : cs_of h8 (z_i h8) nd S := cs_mv I (by rw [M8.zi, s1 nd (Ne.symm la) (Ne.symm pa)]) (by rw [M8.zi, s1 nd (Ne.symm la) (Ne.symm pa)]) (fun q _ => by rw [r8, M8.zi, s1 _ (Ne.symm lb_) (Ne.symm pb)])
  have eL : hp6 (z_i h8 (h_r h nd 2)) (pm_lo S f) := fun q hq => by
    rw [M8.zi, s3 q hq]
    unfold pm_lo
    rw [show ((pm_le S f 6).toNat : Int) = pm_le S f 6 by omega]
  have eH : hp6 (z_i h8 hp) (m_u f (pm_le S f 6).toNat (-1)) := fun q hq => by
    rw [M8.zi, s2]
    by_cases z : q = (pm_le S f 6).toNat
    · rw [z, m_uE, m_uE]
    · rw [m_uN _ _ _ _ z, m_uN _ _ _ _ z]
      exact ef q hq
  refine k_meld ok8 (ap_FX ho F8) (ap_FX lo F8) dl I8 eH eL sh a2 a1 (by omega) cap (fun h9 ok9 I9 e9 F9 => ?_)
  exact r_tl71 (RX.start h9) (fun x1 q1 => g x1 h9 (Or.inr ⟨q1, c⟩) ok9 (by rw [pm_tk1 c]; exact I9) (by rw [pm_tk1 c]; exact e9) (F8.trans (F9.mono (fun _ z => Or.inl z))))
end
