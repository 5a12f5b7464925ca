-- a run's parents lie ahead
theorem ry_okR {T : Nat → Int} : ∀ N, (∀ k, k < N → av_2 T k) → ∃ k, k ≤ N ∧ ry_ok (ry_run T N).1 k ∧ ((ry_run T N).2 = true → k = N)
  | 0, _ => ⟨0, Nat.le_refl _, ry_ok0, fun _ => rfl⟩
  | N + 1, av => by
    obtain ⟨k, k1, k2, k3⟩ := ry_okR N (fun q hq => av q (by omega))
    by_cases f : (ry_run T N).2 = true
    · have ek := k3 f
      subst ek
      cases e : ry_do (ry_z (ry_run T k).1) (T (4 * k)) (T (4 * k + 1)) (T (4 * k + 2)) (T (4 * k + 3)) with
      | none =>
        rw [ry_run0 f e]
        exact ⟨k, by omega, k2, fun z => absurd (show false = true from z) (by decide)⟩
      | some X =>
        rw [ry_run1 f e]
        exact ⟨k + 1, by omega, ry_okS k2 e (av k (by omega)).2.2, fun _ => rfl⟩
    · have f' : (ry_run T N).2 = false := by simpa using f
      rw [ry_runE f' 1]
      exact ⟨k, by omega, k2, fun z => absurd z f⟩
-- a row laid by the reference is the run of the class's acts
theorem ly_ac {ρ : Nat → Nat} {h : MH} {m : Nat} {VV : Nat → Nat → Int} {r : Int} (ht : TH c_sp ρ h) (n15 : c_PT 15 ρ h) (rN : td_rel h (h_r h 16 0) m 0) (vq : ∀ K j, VV K j = q_vm h m K j) (r0 : 0 ≤ r) (r1 : r < VV 5 0) : (∃ n, n ≤ 40 ∧ ry_ok (ac_Y h (q_ac h (h_r h 16 0) r.toNat)) n) ∧ ∀ F' V', ly_E (fun j => VV 6 (161 * r.toNat + 1 + j)) (VV 6 (161 * r).toNat).toNat F' V' → ry_of (m_u F' 19 0) V' (ry_z (ac_Y h (q_ac h (h_r h 16 0) r.toNat))) := by
  obtain ⟨⟨-, -, -, f5⟩, -, ra⟩ := rN
  have fN := nw_ob ht n15.1
  have b5 := (td_bdN ht fN).2.1
  have e5 : q_fd h (h_r h 16 0) 5 = VV 5 0 := f5.trans (vq 5 0).symm
  have rr : (r.toNat : Int) < q_fd h (h_r h 16 0) 5 := by omega
  have oc := ((td_obN ht fN).2.2 r.toNat (by omega)).1
  have c := (t_spec ht (by decide) (rfl : c_sp[12]? = some _) oc).2.2.2 2 (.inl (0, 40)) rfl (fun z => by cases z)
  have c0 : 0 ≤ q_fd h (q_ac h (h_r h 16 0) r.toNat) 2 ∧ q_fd h (q_ac h (h_r h 16 0) r.toNat) 2 ≤ 40 := c
  have av := n15.2.2.2.1 r.toNat rr
  obtain ⟨w1, w2⟩ := ac_ref (ra r.toNat rr) c0.1 av
  refine ⟨?_, fun F' V' b3 => ?_⟩
  · obtain ⟨k, k1, k2, -⟩ := ry_okR (ac_N h (q_ac h (h_r h 16 0) r.toNat)) (fun k hk => av k (by unfold ac_N at hk; omega))
    have : ac_N h (q_ac h (h_r h 16 0) r.toNat) ≤ 40 := by
      unfold ac_N
      omega
    exact ⟨k, by omega, k2⟩
  · have eU : ∀ j, VV 6 (161 * r.toNat + 1 + j) = q_vm h m 6 (644 * 0 + 161 * r.toNat + 1 + j) := fun j => by
      rw [show 644 * 0 + 161 * r.toNat + 1 + j = 161 * r.toNat + 1 + j by omega]
      exact vq 6 _
    have eB : VV 6 (161 * r).toNat = q_vm h m 6 (644 * 0 + 161 * r.toNat) := by
      rw [show 644 * 0 + 161 * r.toNat = (161 * r).toNat by omega]
      exact vq 6 _
    unfold ly_E at b3
    simp only [eU, eB] at b3
    have b4 := b3 (fun q hq => w2 q hq)
    rw [w1] at b4
    exact b4
-- what an act was paid, by the reference
theorem w_bm (s : Int) : ∃ q : Int, s.bmod (2 ^ 32) = s + 4294967296 * q := by
  show ∃ q : Int, (if s % ((2 ^ 32 : Nat) : Int) < (((2 ^ 32 : Nat) : Int) + 1) / 2 then s % ((2 ^ 32 : Nat) : Int) else s % ((2 ^ 32 : Nat) : Int) - ((2 ^ 32 : Nat) : Int)) = _
  have e : ((2 ^ 32 : Nat) : Int) = 4294967296 := rfl
  rw [e]
  split
  · exact ⟨-(s / 4294967296), by omega⟩
  · exact ⟨-(s / 4294967296) - 1, by omega⟩
theorem w_add (x y : Int32) : ∃ q : Int, (x + y).toInt = x.toInt + y.toInt + 4294967296 * q := by
  rw [Int32.toInt_add]
  exact w_bm _
theorem w_sub (x y : Int32) : ∃ q : Int, (x - y).toInt = x.toInt - y.toInt + 4294967296 * q := by
  rw [Int32.toInt_sub]
  exact w_bm _
section
variable {i pc pc' : Nat} {lv : List (Nat × Value)} {st : List Value} {h : MH} {Q : Option Value → MH → Prop}
theorem hM_addq {x y : Int32} {zx zy : Int} (a : m_at i pc = some (.iadd, 1)) (hx : x.toInt = zx) (hy : y.toInt = zy) (hp : pc + 1 = pc') (g : ∀ (w : Int32) (z q : Int), w.toInt = z → z = zx + zy + 4294967296 * q → HJ i pc' lv (.int w :: st) h Q) : HJ i pc lv (.int y :: .int x :: st) h Q := by
  obtain ⟨q, e⟩ := w_add x y
  exact hI_add a hp (g _ _ q rfl (by rw [e, hx, hy]))
theorem hM_subq {x y : Int32} {zx zy : Int} (a : m_at i pc = some (.isub, 1)) (hx : x.toInt = zx) (hy : y.toInt = zy) (hp : pc + 1 = pc') (g : ∀ (w : Int32) (z q : Int), w.toInt = z → z = zx - zy + 4294967296 * q → HJ i pc' lv (.int w :: st) h Q) : HJ i pc lv (.int y :: .int x :: st) h Q := by
  obtain ⟨q, e⟩ := w_sub x y
  exact hI_sub a hp (g _ _ q rfl (by rw [e, hx, hy]))
theorem hI_ldc {idx : Nat} {x : Int32} (a : m_at i pc = some (.ldc idx, 2)) (hx : m_ic i idx = some x) (hp : pc + 2 = pc') (g : HJ i pc' lv (.int x :: st) h Q) : HJ i pc lv st h Q := by
  subst hp
  refine HJ.ex a (Or.inl rfl) ?_ g
  show e_ldc 2 i idx pc lv st h = _
  unfold e_ldc
  rw [hx]
  rfl
theorem hI_ldw {idx : Nat} {x : Int32} (a : m_at i pc = some (.ldc_w idx, 3)) (hx : m_ic i idx = some x) (hp : pc + 3 = pc') (g : HJ i pc' lv (.int x :: st) h Q) : HJ i pc lv st h Q := by
  subst hp
  refine HJ.ex a (Or.inl rfl) ?_ g
  show e_ldc 3 i idx pc lv st h = _
  unfold e_ldc
  rw [hx]
  rfl
theorem hI_nl {off : Int} {o t : Nat} (a : m_at i pc = some (.ifnull off, 3)) (ht : (pc : Int) + off = (t : Int)) (hp : pc + 3 = pc') (ho : o = 0 ∨ 16 ≤ o) (g1 : o = 0 → HJ i t lv st h Q) (g2 : o ≠ 0 → HJ i pc' lv st h Q) : HJ i pc lv (.ref o :: st) h Q := by
  subst hp
  by_cases e : o = 0
  · refine HJ.ex (pc' := t) a (Or.inl rfl) ?_ (g1 e)
    show (if o = 0 then m_tg pc off lv st h else if 16 ≤ o then m_go (pc + 3) lv st h else none) = _
    rw [if_pos e]
    unfold m_tg
    rw [ht, if_pos (Int.natCast_nonneg t), Int.toNat_natCast]
  · refine HJ.ex (pc' := pc + 3) a (Or.inl rfl) ?_ (g2 e)
    show (if o = 0 then m_tg pc off lv st h else if 16 ≤ o then m_go (pc + 3) lv st h else none) = _
    rw [if_neg e, if_pos (by omega)]
    rfl
theorem hI_tsd {d lo hi : Int} {offs : Array Int} {len t : Nat} {x : Int32} (a : m_at i pc = some (.tableswitch d lo hi offs, len)) (b : x.toInt < lo ∨ hi < x.toInt) (ht : (pc : Int) + d = (t : Int)) (g : HJ i t lv st h Q) : HJ i pc lv (.int x :: st) h Q := by
  refine HJ.ex (pc' := t) a (Or.inr rfl) ?_ g
  show (if x.toInt < lo ∨ hi < x.toInt then m_tg pc d lv st h else (match offs[(x.toInt - lo).toNat]? with
      | some o => m_tg pc o lv st h
      | none => none)) = _
  rw [if_pos b]
  unfold m_tg
  rw [ht, if_pos (Int.natCast_nonneg t), Int.toNat_natCast]
end
-- how many roots
def y_sm (f : Nat → Int) : Nat → Nat
  | 0 => 0
  | r + 1 => y_sm f r + y_tg (f r)
theorem y_smC {f f' : Nat → Int} : ∀ {r : Nat}, (∀ j, j < r → f' j = f j) → y_sm f' r = y_sm f r
  | 0, _ => rfl
  | r + 1, h => by
    rw [y_sm, y_sm, y_smC (fun j hj => h j (by omega)), h r (by omega)]
theorem y_tgB (x : Int) : y_tg x ≤ 1 := by
  unfold y_tg
  split <;> omega
theorem y_smP {f : Nat → Int} : p_bc (p_ws f 6) = y_sm f 6 := by
  have b0 := y_tgB (f 0)
  have b1 := y_tgB (f 1)
  have b2 := y_tgB (f 2)
  have b3 := y_tgB (f 3)
  have b4 := y_tgB (f 4)
  have b5 := y_tgB (f 5)
  show p_bc (0 + y_tg (f 0) * 2 ^ 0 + y_tg (f 1) * 2 ^ 1 + y_tg (f 2) * 2 ^ 2 + y_tg (f 3) * 2 ^ 3 + y_tg (f 4) * 2 ^ 4 + y_tg (f 5) * 2 ^ 5) = 0 + y_tg (f 0) + y_tg (f 1) + y_tg (f 2) + y_tg (f 3) + y_tg (f 4) + y_tg (f 5)
  generalize y_tg (f 0) = a0 at *
  generalize y_tg (f 1) = a1 at *
  generalize y_tg (f 2) = a2 at *
  generalize y_tg (f 3) = a3 at *
  generalize y_tg (f 4) = a4 at *
  generalize y_tg (f 5) = a5 at *
  unfold p_bc
  omega
section
variable {lv : List (Nat × Value)} {Q : Option Value → MH → Prop} {W : List (Nat × Nat)} {ρ : Nat → Nat} {m : Nat} {A : Nat → Nat} {h0 h : MH} {F : Nat → Int} {V : Nat → Nat → Int} {G : Nat → Nat → Int64}
theorem s_cd0 {v : Int} (M : MX 49 W ρ m A h0 h F V G) (e0 : m_lk lv 0 = some (.ref m)) {lx1 : Int32} (e1 : m_lk lv 1 = some (.int lx1)) (lq1 : lx1.toInt = v) 
    (g0 : ∀ x1 : Int32, x1.toInt = 0 → ∀ x3 : Int32, x3.toInt = 0 → ∀ lv4 : List (Nat × Value), m_lk lv4 0 = some (.ref m) → m_lk lv4 1 = some (.int lx1) → m_lk lv4 2 = some (.int x1) → m_lk lv4 3 = some (.int x3) → HJ 225 4 lv4 [] h Q)
    : HJ 225 0 lv [] h Q := by
  refine hM_ic (n := 0) rfl (by decide) rfl (fun x1 q1 => ?_) -- 0
  refine hM_si (k := 2) rfl (by decide +kernel) rfl (fun lv2 e2_2 u2 => ?_) -- 1
  have e2_0 := u2 0 _ (by decide) (Or.inl rfl) e0
  have e2_1 := u2 1 _ (by decide) (Or.inl rfl) e1
  refine hM_ic (n := 0) rfl (by decide) rfl (fun x3 q3 => ?_) -- 2
  refine hM_si (k := 3) rfl (by decide +kernel) rfl (fun lv4 e4_3 u4 => ?_) -- 3
  have e4_0 := u4 0 _ (by decide) (Or.inl rfl) e2_0
  have e4_1 := u4 1 _ (by decide) (Or.inl rfl) e2_1
  have e4_2 := u4 2 _ (by decide) (Or.inl rfl) e2_2
  exact g0 x1 q1 x3 q3 lv4 e4_0 e4_1 e4_2 e4_3
theorem s_cd4 {v n r : Int} (M : MX 49 W ρ m A h0 h F V G) (e0 : m_lk lv 0 = some (.ref m)) {lx1 : Int32} (e1 : m_lk lv 1 = some (.int lx1)) (lq1 : lx1.toInt = v) {lx2 : Int32} (e2 : m_lk lv 2 = some (.int lx2)) (lq2 : lx2.toInt = n) {lx3 : Int32} (e3 : m_lk lv 3 = some (.int lx3)) (lq3 : lx3.toInt = r) (v0 : 0 ≤ v) (v1 : v ≤ 40) (r0 : 0 ≤ r) (n0 : 0 ≤ n) (n1 : n ≤ r)
    (g0 : r ≥ 6 → Q (some (.int lx2)) h)
    (g1 : ∀ x8 : Int32, x8.toInt = n + 1 → ∀ x10 : Int32, x10.toInt = r + 1 → ∀ lv10 : List (Nat × Value), m_lk lv10 0 = some (.ref m) → m_lk lv10 1 = some (.int lx1) → m_lk lv10 2 = some (.int x8) → m_lk lv10 3 = some (.int x10) → r < 6 → (-1) ≤ V 36 ((6 * v) + r).toNat → V 36 ((6 * v) + r).toNat ≤ 15999 → V 36 ((6 * v) + r).toNat ≠ (-1) → HJ 225 4 lv10 [] h Q)
    (g2 : ∀ x12 : Int32, x12.toInt = n + 0 → ∀ x14 : Int32, x14.toInt = r + 1 → ∀ lv14 : List (Nat × Value), m_lk lv14 0 = some (.ref m) → m_lk lv14 1 = some (.int lx1) → m_lk lv14 2 = some (.int x12) → m_lk lv14 3 = some (.int x14) → r < 6 → (-1) ≤ V 36 ((6 * v) + r).toNat → V 36 ((6 * v) + r).toNat ≤ 15999 → V 36 ((6 * v) + r).toNat = (-1) → HJ 225 4 lv14 [] h Q)
    : HJ 225 4 lv [] h Q := by
  refine hI_il (k := 3) rfl e3 rfl ?_ -- 4
  refine hM_bp (n := 6) rfl (by decide) rfl (fun x1 q1 => ?_) -- 5
  refine hM_cge (off := 32) (t := 39) rfl lq3 q1 (by decide) rfl (fun c7 => ?_) (fun c7 => ?_) -- 7
  · refine hI_il (k := 2) rfl e2 rfl ?_ -- 39
    refine hI_ri rfl rfl ?_ -- 40
    exact g0 c7
  · refine hI_il (k := 2) rfl e2 rfl ?_ -- 10
    refine hI_al (k := 0) rfl e0 rfl ?_ -- 11
    refine hM_ga M (by decide) rfl rfl (k := 36) (c := 9) rfl rfl rfl (by decide +kernel) rfl ?_ -- 12
    refine hM_bp (n := 6) rfl (by decide) rfl (fun x2 q2 => ?_) -- 15
    refine hI_il (k := 1) rfl e1 rfl ?_ -- 17
    refine hM_mul rfl q2 lq1 (by omega) (by omega) rfl (fun x3 q3 => ?_) -- 18
    refine hI_il (k := 3) rfl e3 rfl ?_ -- 19
    refine hM_add rfl q3 lq3 (by omega) (by omega) rfl (fun x4 q4 => ?_) -- 20
    refine hM_ia M (by decide) (K := 36) (R2 := 71) (L := 246) (H := 246) (lo := (-1)) (hi := 15999) rfl (by decide) rfl rfl (fun _ => rfl) rfl q4 (by omega) (by omega) rfl (fun x5 q5 a5 b5 => ?_) -- 21
    refine hM_ic (n := (-1)) rfl (by decide) rfl (fun x6 q6 => ?_) -- 22
    refine hM_cne (off := 7) (t := 30) rfl q5 q6 (by decide) rfl (fun c23 => ?_) (fun c23 => ?_) -- 23
    · refine hM_ic (n := 1) rfl (by decide) rfl (fun x7 q7 => ?_) -- 30
      refine hM_add rfl lq2 q7 (by omega) (by omega) rfl (fun x8 q8 => ?_) -- 31
      refine hM_si (k := 2) rfl (by decide +kernel) rfl (fun lv9 e9_2 u9 => ?_) -- 32
      have e9_0 := u9 0 _ (by decide) (Or.inl rfl) e0
      have e9_1 := u9 1 _ (by decide) (Or.inl rfl) e1
      have e9_3 := u9 3 _ (by decide) (Or.inl rfl) e3
      refine hM_inc (k := 3) (z := 1) rfl e9_3 lq3 (by decide) (by omega) (by omega) (by decide +kernel) rfl (fun lv10 x10 q10 e10_3 u10 => ?_) -- 33
      have e10_0 := u10 0 _ (by decide) (Or.inl rfl) e9_0
      have e10_1 := u10 1 _ (by decide) (Or.inl rfl) e9_1
      have e10_2 := u10 2 _ (by decide) (Or.inl rfl) e9_2
      refine hI_go (pc' := 4) (off := (-32)) rfl (by decide) ?_ -- 36
      exact g1 x8 q8 x10 q10 lv10 e10_0 e10_1 e10_2 e10_3 c7 a5 b5 c23
    · refine hM_ic (n := 0) rfl (by decide) rfl (fun x11 q11 => ?_) -- 26
      refine hI_go (pc' := 31) (off := 4) rfl (by decide) ?_ -- 27
      refine hM_add rfl lq2 q11 (by omega) (by omega) rfl (fun x12 q12 => ?_) -- 31
      refine hM_si (k := 2) rfl (by decide +kernel) rfl (fun lv13 e13_2 u13 => ?_) -- 32
      have e13_0 := u13 0 _ (by decide) (Or.inl rfl) e0
      have e13_1 := u13 1 _ (by decide) (Or.inl rfl) e1
      have e13_3 := u13 3 _ (by decide) (Or.inl rfl) e3
      refine hM_inc (k := 3) (z := 1) rfl e13_3 lq3 (by decide) (by omega) (by omega) (by decide +kernel) rfl (fun lv14 x14 q14 e14_3 u14 => ?_) -- 33
      have e14_0 := u14 0 _ (by decide) (Or.inl rfl) e13_0
      have e14_1 := u14 1 _ (by decide) (Or.inl rfl) e13_1
      have e14_2 := u14 2 _ (by decide) (Or.inl rfl) e13_2
      refine hI_go (pc' := 4) (off := (-32)) rfl (by decide) ?_ -- 36
      exact g2 x12 q12 x14 q14 lv14 e14_0 e14_1 e14_2 e14_3 c7 a5 b5 c23
theorem s_pd0 {k : Int} (M : MX 49 W ρ m A h0 h F V G) (e0 : m_lk lv 0 = some (.ref m)) {lx1 : Int32} (e1 : m_lk lv 1 = some (.int lx1)) (lq1 : lx1.toInt = k) (k0 : 0 ≤ k) (k1 : k ≤ 39)
    (g0 : ∀ x1 : Int32, x1.toInt = V 38 (k).toNat → ∀ x3 : Int32, x3.toInt = k + 1 → HJ 225 0 (lv_args 0 [.ref m, .int x3]) [] h (fun v h' => HJ 224 13 lv (v.toList ++ [.int x1]) h' Q))
    : HJ 224 0 lv [] h Q := by
  refine hI_al (k := 0) rfl e0 rfl ?_ -- 0
  refine hM_ga M (by decide) rfl rfl (k := 38) (c := 9) rfl rfl rfl (by decide +kernel) rfl ?_ -- 1
  refine hI_il (k := 1) rfl e1 rfl ?_ -- 4
  refine hM_ia M (by decide) (K := 38) (R2 := 73) (L := 40) (H := 40) (lo := (-2147483648)) (hi := 2147483647) rfl (by decide) rfl rfl (fun _ => rfl) rfl lq1 (by omega) (by omega) rfl (fun x1 q1 a1 b1 => ?_) -- 5
  refine hI_al (k := 0) rfl e0 rfl ?_ -- 6
  refine hI_il (k := 1) rfl e1 rfl ?_ -- 7
  refine hM_ic (n := 1) rfl (by decide) rfl (fun x2 q2 => ?_) -- 8
  refine hM_add rfl lq1 q2 (by omega) (by omega) rfl (fun x3 q3 => ?_) -- 9
  refine hM_iv M (by decide) rfl rfl (by decide) (as := [.int x3]) (r := [.int x1]) rfl rfl (by decide +kernel) rfl (by decide +kernel) rfl rfl rfl rfl rfl ?_ -- 10
  exact g0 x1 q1 x3 q3
theorem s_pd13 {k l c : Int} (M : MX 49 W ρ m A h0 h F V G) (e0 : m_lk lv 0 = some (.ref m)) {lx1 : Int32} (e1 : m_lk lv 1 = some (.int lx1)) (lq1 : lx1.toInt = k) {sx0 : Int32} (sq0 : sx0.toInt = l) {sx1 : Int32} (sq1 : sx1.toInt = c) (k0 : 0 ≤ k) (k1 : k ≤ 39)
    (g0 : ∀ x1 : Int32, ∀ z1 : Int, ∀ k1 : Int, x1.toInt = z1 → z1 = l + c + 4294967296 * k1 → ∀ lv2 : List (Nat × Value), m_lk lv2 0 = some (.ref m) → m_lk lv2 1 = some (.int lx1) → m_lk lv2 2 = some (.int x1) → HJ 224 15 lv2 [] h Q)
    : HJ 224 13 lv [.int sx1, .int sx0] h Q := by
  refine hM_addq rfl sq0 sq1 rfl (fun x1 z1 k1 q1 c1 => ?_) -- 13
  refine hM_si (k := 2) rfl (by decide +kernel) rfl (fun lv2 e2_2 u2 => ?_) -- 14
  have e2_0 := u2 0 _ (by decide) (Or.inl rfl) e0
  have e2_1 := u2 1 _ (by decide) (Or.inl rfl) e1
  exact g0 x1 z1 k1 q1 c1 lv2 e2_0 e2_1 e2_2
theorem s_pd15 {k s : Int} (M : MX 49 W ρ m A h0 h F V G) (e0 : m_lk lv 0 = some (.ref m)) {lx1 : Int32} (e1 : m_lk lv 1 = some (.int lx1)) (lq1 : lx1.toInt = k) {lx2 : Int32} (e2 : m_lk lv 2 = some (.int lx2)) (lq2 : lx2.toInt = s) (k0 : 0 ≤ k) (k1 : k ≤ 39)
    (g0 : ∀ x7 : Int32, x7.toInt = V 39 (k + 1).toNat → (-1) ≤ V 39 (k + 1).toNat → V 39 (k + 1).toNat ≤ 40 → V 39 (k + 1).toNat ≠ (-1) → HJ 225 0 (lv_args 0 [.ref m, .int x7]) [] h (fun v h' => HJ 224 44 lv (v.toList ++ [.int lx2]) h' Q))
    (g1 : ∀ x9 : Int32, ∀ z9 : Int, ∀ k9 : Int, x9.toInt = z9 → z9 = s - 0 + 4294967296 * k9 → ∀ lv10 : List (Nat × Value), m_lk lv10 0 = some (.ref m) → m_lk lv10 1 = some (.int lx1) → m_lk lv10 2 = some (.int x9) → (-1) ≤ V 39 (k + 1).toNat → V 39 (k + 1).toNat ≤ 40 → V 39 (k + 1).toNat = (-1) → HJ 224 46 lv10 [] h Q)
    : HJ 224 15 lv [] h Q := by
  refine hI_il (k := 2) rfl e2 rfl ?_ -- 15
  refine hI_al (k := 0) rfl e0 rfl ?_ -- 16
  refine hM_ga M (by decide) rfl rfl (k := 39) (c := 9) rfl rfl rfl (by decide +kernel) rfl ?_ -- 17
  refine hI_il (k := 1) rfl e1 rfl ?_ -- 20
  refine hM_ic (n := 1) rfl (by decide) rfl (fun x1 q1 => ?_) -- 21
  refine hM_add rfl lq1 q1 (by omega) (by omega) rfl (fun x2 q2 => ?_) -- 22
  refine hM_ia M (by decide) (K := 39) (R2 := 74) (L := 41) (H := 41) (lo := (-1)) (hi := 40) rfl (by decide) rfl rfl (fun _ => rfl) rfl q2 (by omega) (by omega) rfl (fun x3 q3 a3 b3 => ?_) -- 23
  refine hM_ic (n := (-1)) rfl (by decide) rfl (fun x4 q4 => ?_) -- 24
  refine hM_cne (off := 7) (t := 32) rfl q3 q4 (by decide) rfl (fun c25 => ?_) (fun c25 => ?_) -- 25
  · refine hI_al (k := 0) rfl e0 rfl ?_ -- 32
    refine hI_al (k := 0) rfl e0 rfl ?_ -- 33
    refine hM_ga M (by decide) rfl rfl (k := 39) (c := 9) rfl rfl rfl (by decide +kernel) rfl ?_ -- 34
    refine hI_il (k := 1) rfl e1 rfl ?_ -- 37
    refine hM_ic (n := 1) rfl (by decide) rfl (fun x5 q5 => ?_) -- 38
    refine hM_add rfl lq1 q5 (by omega) (by omega) rfl (fun x6 q6 => ?_) -- 39
    refine hM_ia M (by decide) (K := 39) (R2 := 74) (L := 41) (H := 41) (lo := (-1)) (hi := 40) rfl (by decide) rfl rfl (fun _ => rfl) rfl q6 (by omega) (by omega) rfl (fun x7 q7 a7 b7 => ?_) -- 40
    refine hM_iv M (by decide) rfl rfl (by decide) (as := [.int x7]) (r := [.int lx2]) rfl rfl (by decide +kernel) rfl (by decide +kernel) rfl rfl rfl rfl rfl ?_ -- 41
    exact g0 x7 q7 a3 b3 c25
  · refine hM_ic (n := 0) rfl (by decide) rfl (fun x8 q8 => ?_) -- 28
    refine hI_go (pc' := 44) (off := 15) rfl (by decide) ?_ -- 29
    refine hM_subq rfl lq2 q8 rfl (fun x9 z9 k9 q9 c9 => ?_) -- 44
    refine hM_si (k := 2) rfl (by decide +kernel) rfl (fun lv10 e10_2 u10 => ?_) -- 45
    have e10_0 := u10 0 _ (by decide) (Or.inl rfl) e0
    have e10_1 := u10 1 _ (by decide) (Or.inl rfl) e1
    exact g1 x9 z9 k9 q9 c9 lv10 e10_0 e10_1 e10_2 a3 b3 c25
theorem s_pd44 {k w s c : Int} (M : MX 49 W ρ m A h0 h F V G) (e0 : m_lk lv 0 = some (.ref m)) {lx1 : Int32} (e1 : m_lk lv 1 = some (.int lx1)) (lq1 : lx1.toInt = k) {lx2 : Int32} (e2 : m_lk lv 2 = some (.int lx2)) (lq2 : lx2.toInt = w) {sx0 : Int32} (sq0 : sx0.toInt = s) {sx1 : Int32} (sq1 : sx1.toInt = c) (k0 : 0 ≤ k) (k1 : k ≤ 39)
    (g0 : ∀ x1 : Int32, ∀ z1 : Int, ∀ k1 : Int, x1.toInt = z1 → z1 = s - c + 4294967296 * k1 → ∀ lv2 : List (Nat × Value), m_lk lv2 0 = some (.ref m) → m_lk lv2 1 = some (.int lx1) → m_lk lv2 2 = some (.int x1) → HJ 224 46 lv2 [] h Q)
    : HJ 224 44 lv [.int sx1, .int sx0] h Q := by
  refine hM_subq rfl sq0 sq1 rfl (fun x1 z1 k1 q1 c1 => ?_) -- 44
  refine hM_si (k := 2) rfl (by decide +kernel) rfl (fun lv2 e2_2 u2 => ?_) -- 45
  have e2_0 := u2 0 _ (by decide) (Or.inl rfl) e0
  have e2_1 := u2 1 _ (by decide) (Or.inl rfl) e1
  exact g0 x1 z1 k1 q1 c1 lv2 e2_0 e2_1 e2_2
theorem s_pd46 {k s : Int} (M : MX 49 W ρ m A h0 h F V G) (e0 : m_lk lv 0 = some (.ref m)) {lx1 : Int32} (e1 : m_lk lv 1 = some (.int lx1)) (lq1 : lx1.toInt = k) {lx2 : Int32} (e2 : m_lk lv 2 = some (.int lx2)) (lq2 : lx2.toInt = s) (k0 : 0 ≤ k) (k1 : k ≤ 39)
    (g0 : ∀ x7 : Int32, x7.toInt = V 40 (k + 1).toNat → (-1) ≤ V 40 (k + 1).toNat → V 40 (k + 1).toNat ≤ 40 → V 40 (k + 1).toNat ≠ (-1) → HJ 225 0 (lv_args 0 [.ref m, .int x7]) [] h (fun v h' => HJ 224 75 lv (v.toList ++ [.int lx2]) h' Q))
    (g1 : ∀ x9 : Int32, ∀ z9 : Int, ∀ k9 : Int, x9.toInt = z9 → z9 = s - 0 + 4294967296 * k9 → ∀ lv10 : List (Nat × Value), m_lk lv10 0 = some (.ref m) → m_lk lv10 1 = some (.int lx1) → m_lk lv10 2 = some (.int x9) → (-1) ≤ V 40 (k + 1).toNat → V 40 (k + 1).toNat ≤ 40 → V 40 (k + 1).toNat = (-1) → HJ 224 77 lv10 [] h Q)
    : HJ 224 46 lv [] h Q := by
  refine hI_il (k := 2) rfl e2 rfl ?_ -- 46
  refine hI_al (k := 0) rfl e0 rfl ?_ -- 47
  refine hM_ga M (by decide) rfl rfl (k := 40) (c := 9) rfl rfl rfl (by decide +kernel) rfl ?_ -- 48
  refine hI_il (k := 1) rfl e1 rfl ?_ -- 51
  refine hM_ic (n := 1) rfl (by decide) rfl (fun x1 q1 => ?_) -- 52
  refine hM_add rfl lq1 q1 (by omega) (by omega) rfl (fun x2 q2 => ?_) -- 53
  refine hM_ia M (by decide) (K := 40) (R2 := 75) (L := 41) (H := 41) (lo := (-1)) (hi := 40) rfl (by decide) rfl rfl (fun _ => rfl) rfl q2 (by omega) (by omega) rfl (fun x3 q3 a3 b3 => ?_) -- 54
  refine hM_ic (n := (-1)) rfl (by decide) rfl (fun x4 q4 => ?_) -- 55
  refine hM_cne (off := 7) (t := 63) rfl q3 q4 (by decide) rfl (fun c56 => ?_) (fun c56 => ?_) -- 56
  · refine hI_al (k := 0) rfl e0 rfl ?_ -- 63
    refine hI_al (k := 0) rfl e0 rfl ?_ -- 64
    refine hM_ga M (by decide) rfl rfl (k := 40) (c := 9) rfl rfl rfl (by decide +kernel) rfl ?_ -- 65
    refine hI_il (k := 1) rfl e1 rfl ?_ -- 68
    refine hM_ic (n := 1) rfl (by decide) rfl (fun x5 q5 => ?_) -- 69
    refine hM_add rfl lq1 q5 (by omega) (by omega) rfl (fun x6 q6 => ?_) -- 70
    refine hM_ia M (by decide) (K := 40) (R2 := 75) (L := 41) (H := 41) (lo := (-1)) (hi := 40) rfl (by decide) rfl rfl (fun _ => rfl) rfl q6 (by omega) (by omega) rfl (fun x7 q7 a7 b7 => ?_) -- 71
    refine hM_iv M (by decide) rfl rfl (by decide) (as := [.int x7]) (r := [.int lx2]) rfl rfl (by decide +kernel) rfl (by decide +kernel) rfl rfl rfl rfl rfl ?_ -- 72
    exact g0 x7 q7 a3 b3 c56
  · refine hM_ic (n := 0) rfl (by decide) rfl (fun x8 q8 => ?_) -- 59
    refine hI_go (pc' := 75) (off := 15) rfl (by decide) ?_ -- 60
    refine hM_subq rfl lq2 q8 rfl (fun x9 z9 k9 q9 c9 => ?_) -- 75
    refine hM_si (k := 2) rfl (by decide +kernel) rfl (fun lv10 e10_2 u10 => ?_) -- 76
    have e10_0 := u10 0 _ (by decide) (Or.inl rfl) e0
    have e10_1 := u10 1 _ (by decide) (Or.inl rfl) e1
    exact g1 x9 z9 k9 q9 c9 lv10 e10_0 e10_1 e10_2 a3 b3 c56
theorem s_pd75 {k w s c : Int} (M : MX 49 W ρ m A h0 h F V G) (e0 : m_lk lv 0 = some (.ref m)) {lx1 : Int32} (e1 : m_lk lv 1 = some (.int lx1)) (lq1 : lx1.toInt = k) {lx2 : Int32} (e2 : m_lk lv 2 = some (.int lx2)) (lq2 : lx2.toInt = w) {sx0 : Int32} (sq0 : sx0.toInt = s) {sx1 : Int32} (sq1 : sx1.toInt = c) (k0 : 0 ≤ k) (k1 : k ≤ 39)
    (g0 : ∀ x1 : Int32, ∀ z1 : Int, ∀ k1 : Int, x1.toInt = z1 → z1 = s - c + 4294967296 * k1 → ∀ lv2 : List (Nat × Value), m_lk lv2 0 = some (.ref m) → m_lk lv2 1 = some (.int lx1) → m_lk lv2 2 = some (.int x1) → HJ 224 77 lv2 [] h Q)
    : HJ 224 75 lv [.int sx1, .int sx0] h Q := by
  refine hM_subq rfl sq0 sq1 rfl (fun x1 z1 k1 q1 c1 => ?_) -- 75
  refine hM_si (k := 2) rfl (by decide +kernel) rfl (fun lv2 e2_2 u2 => ?_) -- 76
  have e2_0 := u2 0 _ (by decide) (Or.inl rfl) e0
  have e2_1 := u2 1 _ (by decide) (Or.inl rfl) e1
  exact g0 x1 z1 k1 q1 c1 lv2 e2_0 e2_1 e2_2
theorem s_pd77 {k s : Int} (M : MX 49 W ρ m A h0 h F V G) (e0 : m_lk lv 0 = some (.ref m)) {lx1 : Int32} (e1 : m_lk lv 1 = some (.int lx1)) (lq1 : lx1.toInt = k) {lx2 : Int32} (e2 : m_lk lv 2 = some (.int lx2)) (lq2 : lx2.toInt = s) 
    (g0 : Q (some (.int lx2)) h)
    : HJ 224 77 lv [] h Q := by
  refine hI_il (k := 2) rfl e2 rfl ?_ -- 77
  refine hI_ri rfl rfl ?_ -- 78
  exact g0 
theorem l_mcr {v : Int} {xv : Int32} (M : MX 49 W ρ m A h0 h F V G) (qv : xv.toInt = v) (v0 : 0 ≤ v) (v40 : v ≤ 40) (g : ∀ x : Int32, x.toInt = (y_sm (fun r => V 36 (6 * v.toNat + r)) 6 : Int) → Q (some (.int x)) h) : ∀ (d r : Nat) (lv : List (Nat × Value)) (xn xr : Int32), r + d = 6 → xn.toInt = (y_sm (fun r => V 36 (6 * v.toNat + r)) r : Int) → y_sm (fun r => V 36 (6 * v.toNat + r)) r ≤ r → xr.toInt = (r : Int) → m_lk lv 0 = some (.ref m) → m_lk lv 1 = some (.int xv) → m_lk lv 2 = some (.int xn) → m_lk lv 3 = some (.int xr) → HJ 225 4 lv [] h Q := by
  intro d
  induction d with
  | zero =>
    intro r lv xn xr hd qn bn qr e0 e1 e2 e3
    have er : r = 6 := by omega
    subst er
    exact s_cd4 M e0 e1 qv e2 qn e3 qr v0 v40 (by omega) (by omega) (by omega) (fun _ => g xn qn) (fun _ _ _ _ _ _ _ _ _ c => absurd c (by omega)) (fun _ _ _ _ _ _ _ _ _ c => absurd c (by omega))
  | succ d ih =>
    intro r lv xn xr hd qn bn qr e0 e1 e2 e3
    have ej : (6 * v + (r : Int)).toNat = 6 * v.toNat + r := by omega
    refine s_cd4 M e0 e1 qv e2 qn e3 qr v0 v40 (by omega) (by omega) (by omega) (fun c => absurd c (by omega)) (fun x8 q8 x10 q10 lv1 a0 a1 a2 a3 _ _ _ c => ?_) (fun x8 q8 x10 q10 lv1 a0 a1 a2 a3 _ _ _ c => ?_)
    · rw [ej] at c
      have e : y_sm (fun r => V 36 (6 * v.toNat + r)) (r + 1) = y_sm (fun r => V 36 (6 * v.toNat + r)) r + 1 := by
        rw [y_sm, y_tg1 c]
      exact ih (r + 1) lv1 x8 x10 (by omega) (by rw [e]; omega) (by rw [e]; omega) (by omega) a0 a1 a2 a3
    · rw [ej] at c
      have e : y_sm (fun r => V 36 (6 * v.toNat + r)) (r + 1) = y_sm (fun r => V 36 (6 * v.toNat + r)) r := by
        rw [y_sm, y_tg0 c, Nat.add_zero]
      exact ih (r + 1) lv1 x8 x10 (by omega) (by rw [e]; omega) (by rw [e]; omega) (by omega) a0 a1 a2 a3
theorem c_mcr {v : Int} {xv : Int32} (M : MX 49 W ρ m A h0 h F V G) (qv : xv.toInt = v) (v0 : 0 ≤ v) (v40 : v ≤ 40) (g : ∀ x : Int32, x.toInt = (y_sm (fun r => V 36 (6 * v.toNat + r)) 6 : Int) → Q (some (.int x)) h) : HJ 225 0 (lv_args 0 [.ref m, .int xv]) [] h Q :=
  s_cd0 M rfl rfl qv (fun x1 q1 x3 q3 lv a0 a1 a2 a3 => l_mcr M qv v0 v40 g 6 0 lv x1 x3 rfl q1 (Nat.le_refl _) q3 a0 a1 a2 a3)
def cr_V (V : Nat → Nat → Int) (v : Int) : Int := if v = -1 then 0 else (y_sm (fun r => V 36 (6 * v.toNat + r)) 6 : Int)
theorem c_mpaid {k : Int} {xk : Int32} (M : MX 49 W ρ m A h0 h F V G) (qk : xk.toInt = k) (k0 : 0 ≤ k) (k39 : k ≤ 39) (g : ∀ (x : Int32) (w : Int), x.toInt = V 38 k.toNat + (y_sm (fun r => V 36 (6 * (k + 1).toNat + r)) 6 : Int) - cr_V V (V 39 (k + 1).toNat) - cr_V V (V 40 (k + 1).toNat) + 4294967296 * w → Q (some (.int x)) h) : HJ 224 0 (lv_args 0 [.ref m, .int xk]) [] h Q := by
  refine s_pd0 M rfl rfl qk k0 k39 (fun x1 q1 x3 q3 => c_mcr M q3 (by omega) (by omega) (fun xc qc => ?_))
  show HJ 224 13 _ [.int xc, .int x1] h Q
  have last : ∀ (lv : List (Nat × Value)) (x : Int32) (s w : Int), x.toInt = s → s = V 38 k.toNat + (y_sm (fun r => V 36 (6 * (k + 1).toNat + r)) 6 : Int) - cr_V V (V 39 (k + 1).toNat) - cr_V V (V 40 (k + 1).toNat) + 4294967296 * w → m_lk lv 0 = some (.ref m) → m_lk lv 1 = some (.int xk) → m_lk lv 2 = some (.int x) → HJ 224 77 lv [] h Q := fun lv x s w q e a0 a1 a2 => s_pd77 M a0 a1 qk a2 q (g x w (by rw [q, e]))
  have mid : ∀ (lv : List (Nat × Value)) (x : Int32) (s w : Int), x.toInt = s → s = V 38 k.toNat + (y_sm (fun r => V 36 (6 * (k + 1).toNat + r)) 6 : Int) - cr_V V (V 39 (k + 1).toNat) + 4294967296 * w → m_lk lv 0 = some (.ref m) → m_lk lv 1 = some (.int xk) → m_lk lv 2 = some (.int x) → HJ 224 46 lv [] h Q := fun lv x s w q e a0 a1 a2 => by
    refine s_pd46 M a0 a1 qk a2 q k0 k39 (fun x7 q7 l7 u7 c => ?_) (fun x9 z9 w9 q9 c9 lv1 b0 b1 b2 _ _ c => ?_)
    · refine c_mcr M q7 (by omega) u7 (fun xd qd => ?_)
      show HJ 224 75 lv [.int xd, .int x] h Q
      refine s_pd75 M a0 a1 qk a2 q q qd k0 k39 (fun y z w2 qz cz lv1 b0 b1 b2 => last lv1 y z (w + w2) qz ?_ b0 b1 b2)
      have e3 : cr_V V (V 40 (k + 1).toNat) = (y_sm (fun r => V 36 (6 * (V 40 (k + 1).toNat).toNat + r)) 6 : Int) := if_neg c
      rw [cz, e, e3]
      omega
    · refine last lv1 x9 z9 (w + w9) q9 ?_ b0 b1 b2
      have e3 : cr_V V (V 40 (k + 1).toNat) = 0 := if_pos c
      rw [c9, e, e3]
      omega
  refine s_pd13 M rfl rfl qk q1 qc k0 k39 (fun x z w q c lv a0 a1 a2 => ?_)
  refine s_pd15 M a0 a1 qk a2 q k0 k39 (fun x7 q7 l7 u7 c7 => ?_) (fun x9 z9 w9 q9 c9 lv1 b0 b1 b2 _ _ c8 => ?_)
  · refine c_mcr M q7 (by omega) u7 (fun xd qd => ?_)
    show HJ 224 44 lv [.int xd, .int x] h Q
    refine s_pd44 M a0 a1 qk a2 q q qd k0 k39 (fun y z2 w2 qz cz lv1 b0 b1 b2 => mid lv1 y z2 (w + w2) qz ?_ b0 b1 b2)
    have e3 : cr_V V (V 39 (k + 1).toNat) = (y_sm (fun r => V 36 (6 * (V 39 (k + 1).toNat).toNat + r)) 6 : Int) := if_neg c7
    rw [cz, c, e3]
    omega
  · refine mid lv1 x9 z9 (w + w9) q9 ?_ b0 b1 b2
    have e3 : cr_V V (V 39 (k + 1).toNat) = 0 := if_pos c8
    rw [c9, c, e3]
    omega
end
-- the reference's books of a laid row
theorem di_rf {Y : RYt} {F : Nat → Int} {V : Nat → Nat → Int} {k n : Nat} {w x : Int} (y : ry_of F V (ry_z Y)) (o : ry_ok Y n) (hk : k + 1 < ry_v Y) (e : x = V 38 k + (y_sm (fun r => V 36 (6 * (((k : Int) + 1).toNat) + r)) 6 : Int) - cr_V V (V 39 ((k : Int) + 1).toNat) - cr_V V (V 40 ((k : Int) + 1).toNat) + 4294967296 * w) : x = ry_pd Y k + 4294967296 * w := by
  obtain ⟨-, -, -, y36, y39, y37⟩ := y
  have y36 : ∀ j, j < 6 * ry_v Y → V 36 j = ry_r Y j := y36
  have y39 : ∀ v, v < ry_v Y → V 39 v = ry_a Y v ∧ V 40 v = ry_b Y v := y39
  have y37 : ∀ k, k + 1 < ry_v Y → V 37 k = ry_m Y k ∧ V 38 k = ry_l Y k := y37
  have k1 : ((k : Int) + 1).toNat = k + 1 := by omega
  have sm : ∀ v : Int, 0 ≤ v → v < (ry_v Y : Int) → y_sm (fun r => V 36 (6 * v.toNat + r)) 6 = p_bc (p_ws (ry_h Y v) 6) := fun v v0 v1 => by
    rw [y_smP]
    exact y_smC (fun j hj => y36 _ (by omega))
  have cr : ∀ v : Int, -1 ≤ v → v < (ry_v Y : Int) → cr_V V v = cr_of Y v := fun v v0 v1 => by
    unfold cr_V cr_of
    by_cases c : v = -1
    · rw [if_pos c, if_pos c]
    · rw [if_neg c, if_neg c, sm v (by omega) v1]
  obtain ⟨⟨a0, a1⟩, b0, b1⟩ := o.2.2 (k + 1) hk
  obtain ⟨e39, e40⟩ := y39 (k + 1) hk
  have s1 := sm ((k + 1 : Nat) : Int) (by omega) (by omega)
  rw [Int.toNat_natCast] at s1
  rw [e, k1, (y37 k hk).2, e39, e40, cr _ a0 (by omega), cr _ b0 (by omega), s1]
  rfl
-- over, both sides
def ov_s (Y : RYt) (c z : Int) : Prop := (∃ k : Nat, k + 1 < ry_v Y ∧ c < ry_pd Y k ∧ (∀ j, j < k → ry_pd Y j ≤ c) ∧ z = (k : Int)) ∨ ((∀ k : Nat, k + 1 < ry_v Y → ry_pd Y k ≤ c) ∧ z = -1)
def ov_q (Y : RYt) (row : Prop) (c z : Int) : Prop := (¬ row ∧ z = -1) ∨ (row ∧ ov_s Y c z)
theorem ov_eq {Y : RYt} {row row' : Prop} {c y z : Int} (er : row ↔ row') (a : ov_q Y row c z) (b : ov_q Y row' c y) : y = z := by
  rcases a with ⟨a1, a2⟩ | ⟨a1, a2⟩
  · rcases b with ⟨-, b2⟩ | ⟨b1, -⟩
    · omega
    · exact absurd (er.mpr b1) a1
  · rcases b with ⟨b1, -⟩ | ⟨-, b2⟩
    · exact absurd (er.mp a1) b1
    · rcases a2 with ⟨k, k1, k2, k3, k4⟩ | ⟨k1, k2⟩
      · rcases b2 with ⟨q, q1, q2, q3, q4⟩ | ⟨q1, q2⟩
        · rcases Nat.lt_trichotomy k q with e | e | e
          · have := q3 k e
            omega
          · omega
          · have := k3 q e
            omega
        · have := q1 k k1
          omega
      · rcases b2 with ⟨q, q1, q2, q3, q4⟩ | ⟨q1, q2⟩
        · have := k1 q q1
          omega
        · omega
section
variable {lv : List (Nat × Value)} {Q : Option Value → MH → Prop} {h0 h : MH} {H : Nat → Nat → Int}
theorem r_fp0 {pa : Nat} {c : Int} (M : RX h0 h H) (e0 : m_lk lv 0 = some (.ref pa)) {lx1 : Int32} (e1 : m_lk lv 1 = some (.int lx1)) (lq1 : lx1.toInt = c) 
    (g0 : ∀ x1 : Int32, x1.toInt = 0 → ∀ lv2 : List (Nat × Value), m_lk lv2 0 = some (.ref pa) → m_lk lv2 1 = some (.int lx1) → m_lk lv2 2 = some (.int x1) → HJ 145 2 lv2 [] h Q)
    : HJ 145 0 lv [] h Q := by
  refine hM_ic (n := 0) rfl (by decide) rfl (fun x1 q1 => ?_) -- 0
  refine hM_si (k := 2) rfl (by decide +kernel) rfl (fun lv2 e2_2 u2 => ?_) -- 1
  have e2_0 := u2 0 _ (by decide) (Or.inl rfl) e0
  have e2_1 := u2 1 _ (by decide) (Or.inl rfl) e1
  exact g0 x1 q1 lv2 e2_0 e2_1 e2_2
theorem r_fp2 {pa : Nat} {c k : Int} (M : RX h0 h H) (e0 : m_lk lv 0 = some (.ref pa)) {lx1 : Int32} (e1 : m_lk lv 1 = some (.int lx1)) (lq1 : lx1.toInt = c) {lx2 : Int32} (e2 : m_lk lv 2 = some (.int lx2)) (lq2 : lx2.toInt = k) (k0 : 0 ≤ k) (s1 : H pa 11 ≤ 40) (hk0 : (h_k h0 pa).1 = 4) (ha0 : (h_k h0 (h_r h0 pa 6)).1 = 20) (hl0 : 40 ≤ ((h_k h0 (h_r h0 pa 6)).2 : Int))
    (g0 : ∀ x2 : Int32, x2.toInt = (-1) → k ≥ H pa 11 → Q (some (.int x2)) h)
    (g1 : ∀ x4 : Int32, x4.toInt = k + 1 → ∀ lv4 : List (Nat × Value), m_lk lv4 0 = some (.ref pa) → m_lk lv4 1 = some (.int lx1) → m_lk lv4 2 = some (.int x4) → k < H pa 11 → H (h_r h0 pa 6) (k).toNat ≤ c → HJ 145 2 lv4 [] h Q)
    (g2 : k < H pa 11 → H (h_r h0 pa 6) (k).toNat > c → Q (some (.int lx2)) h)
    : HJ 145 2 lv [] h Q := by
  refine hI_il (k := 2) rfl e2 rfl ?_ -- 2
  refine hI_al (k := 0) rfl e0 rfl ?_ -- 3
  refine hR_gi (c := 3) (k := 11) M hk0 rfl rfl rfl rfl (fun x1 q1 => ?_) -- 4
  have gb1 : -2147483648 ≤ H pa 11 ∧ H pa 11 ≤ 2147483647 := by rw [← q1]; exact g_iT _
  refine hM_cge (off := 21) (t := 28) rfl lq2 q1 (by decide) rfl (fun c7 => ?_) (fun c7 => ?_) -- 7
  · refine hM_ic (n := (-1)) rfl (by decide) rfl (fun x2 q2 => ?_) -- 28
    refine hI_ri rfl rfl ?_ -- 29
    exact g0 x2 q2 c7
  · refine hI_al (k := 0) rfl e0 rfl ?_ -- 10
    refine hR_gr (c := 3) (k := 6) M hk0 rfl rfl rfl rfl ?_ -- 11
    refine hI_il (k := 2) rfl e2 rfl ?_ -- 14
    refine hR_ia M ha0 lq2 (by omega) (by omega) rfl rfl (fun x3 q3 => ?_) -- 15
    have gb3 : -2147483648 ≤ H (h_r h0 pa 6) (k).toNat ∧ H (h_r h0 pa 6) (k).toNat ≤ 2147483647 := by rw [← q3]; exact g_iT _
    refine hI_il (k := 1) rfl e1 rfl ?_ -- 16
    refine hM_cle (off := 5) (t := 22) rfl q3 lq1 (by decide) rfl (fun c17 => ?_) (fun c17 => ?_) -- 17
    · refine hM_inc (k := 2) (z := 1) rfl e2 lq2 (by decide) (by omega) (by omega) (by decide +kernel) rfl (fun lv4 x4 q4 e4_2 u4 => ?_) -- 22
      have e4_0 := u4 0 _ (by decide) (Or.inl rfl) e0
      have e4_1 := u4 1 _ (by decide) (Or.inl rfl) e1
      refine hI_go (pc' := 2) (off := (-23)) rfl (by decide) ?_ -- 25
      exact g1 x4 q4 lv4 e4_0 e4_1 e4_2 c7 c17
    · refine hI_il (k := 2) rfl e2 rfl ?_ -- 20
      refine hI_ri rfl rfl ?_ -- 21
      exact g2 c7 c17
theorem l_fp {p : Nat} {Y : RYt} {xc : Int32} (M : RX h0 h (z_i h0)) (kp : (h_k h0 p).1 = 4) (kw : (h_k h0 (h_r h0 p 6)).1 = 20) (lw : 40 ≤ ((h_k h0 (h_r h0 p 6)).2 : Int)) (bs : z_i h0 p 11 + 1 = (ry_v Y : Int)) (v41 : ry_v Y ≤ 41) (bd : ∀ k : Nat, k + 1 < ry_v Y → z_i h0 (h_r h0 p 6) k = ry_pd Y k) (g : ∀ z : Int32, ov_s Y xc.toInt z.toInt → Q (some (.int z)) h) : ∀ (d k : Nat) (lv : List (Nat × Value)) (xk : Int32), k + 1 + d = ry_v Y → xk.toInt = (k : Int) → (∀ j, j < k → ry_pd Y j ≤ xc.toInt) → m_lk lv 0 = some (.ref p) → m_lk lv 1 = some (.int xc) → m_lk lv 2 = some (.int xk) → HJ 145 2 lv [] h Q := by
  intro d
  induction d with
  | zero =>
    intro k lv xk hd qk lo e0 e1 e2
    exact r_fp2 M e0 e1 rfl e2 qk (by omega) (by omega) kp kw lw (fun x q _ => g x (Or.inr ⟨fun j hj => lo j (by omega), q⟩)) (fun _ _ _ _ _ _ c _ => absurd c (by omega)) (fun c _ => absurd c (by omega))
  | succ d ih =>
    intro k lv xk hd qk lo e0 e1 e2
    have bk := bd k (by omega)
    have ek : ((k : Int)).toNat = k := Int.toNat_natCast k
    refine r_fp2 M e0 e1 rfl e2 qk (by omega) (by omega) kp kw lw (fun x q c => absurd c (by omega)) (fun x4 q4 lv4 a0 a1 a2 _ c => ?_) (fun _ c => ?_)
    · rw [ek, bk] at c
      refine ih (k + 1) lv4 x4 (by omega) (by omega) (fun j hj => ?_) a0 a1 a2
      by_cases ej : j = k
      · rw [ej]
        exact c
      · exact lo j (by omega)
    · rw [ek, bk] at c
      exact g xk (Or.inl ⟨k, by omega, c, lo, qk⟩)
end
section
variable {lv : List (Nat × Value)} {Q : Option Value → MH → Prop} {W : List (Nat × Nat)} {ρ : Nat → Nat} {m : Nat} {A : Nat → Nat} {h0 h : MH} {F : Nat → Int} {V : Nat → Nat → Int} {G : Nat → Nat → Int64}
theorem s_ov0 {r c : Int} (M : MX 49 W ρ m A h0 h F V G) (e0 : m_lk lv 0 = some (.ref m)) {lx1 : Int32} (e1 : m_lk lv 1 = some (.int lx1)) (lq1 : lx1.toInt = r) {lx2 : Int32} (e2 : m_lk lv 2 = some (.int lx2)) (lq2 : lx2.toInt = c) (hw : d_sub [(49, 0)] W = true)
    (g0 : ∀ h2 : MH, ∀ F2 : Nat → Int, F2 = m_u F 0 (0) → MX 49 W ρ m A h0 h2 F2 V G → HJ 201 0 (lv_args 0 [.ref m, .int lx1]) [] h2 (fun v h' => HJ 274 10 lv (v.toList ++ []) h' Q))
    : HJ 274 0 lv [] h Q := by
  refine hI_al (k := 0) rfl e0 rfl ?_ -- 0
  refine hM_ic (n := 0) rfl (by decide) rfl (fun x1 q1 => ?_) -- 1
  refine hM_pi M (by decide) ok_49 rfl rfl (k := 0) (c := 9) (lo := (-2147483648)) (hi := 2147483647) rfl rfl ⟨by decide, by decide +kernel, rfl⟩ rfl (d_subm hw (by decide +kernel)) q1 (by omega) (by omega) rfl (fun h2 F2 f2 M2 => ?_) -- 2
  refine hI_al (k := 0) rfl e0 rfl ?_ -- 5
  refine hI_il (k := 1) rfl e1 rfl ?_ -- 6
  refine hM_iv M2 (by decide) rfl rfl (by decide) (as := [.int lx1]) (r := []) rfl rfl (by decide +kernel) rfl (by decide +kernel) rfl rfl rfl rfl rfl ?_ -- 7
  exact g0 h2 F2 f2 M2
theorem s_ov10 {z r c : Int} (M : MX 49 W ρ m A h0 h F V G) (e0 : m_lk lv 0 = some (.ref m)) {lx1 : Int32} (e1 : m_lk lv 1 = some (.int lx1)) (lq1 : lx1.toInt = r) {lx2 : Int32} (e2 : m_lk lv 2 = some (.int lx2)) (lq2 : lx2.toInt = c) {sx0 : Int32} (sq0 : sx0.toInt = z) 
    (g0 : ∀ x1 : Int32, x1.toInt = 0 → ∀ lv2 : List (Nat × Value), m_lk lv2 0 = some (.ref m) → m_lk lv2 1 = some (.int lx1) → m_lk lv2 2 = some (.int lx2) → m_lk lv2 3 = some (.int x1) → z ≠ 0 → HJ 274 17 lv2 [] h Q)
    (g1 : ∀ x3 : Int32, x3.toInt = (-1) → z = 0 → Q (some (.int x3)) h)
    : HJ 274 10 lv [.int sx0] h Q := by
  refine hM_zne (off := 5) (t := 15) rfl sq0 (by decide) rfl (fun c10 => ?_) (fun c10 => ?_) -- 10
  · refine hM_ic (n := 0) rfl (by decide) rfl (fun x1 q1 => ?_) -- 15
    refine hM_si (k := 3) rfl (by decide +kernel) rfl (fun lv2 e2_3 u2 => ?_) -- 16
    have e2_0 := u2 0 _ (by decide) (Or.inl rfl) e0
    have e2_1 := u2 1 _ (by decide) (Or.inl rfl) e1
    have e2_2 := u2 2 _ (by decide) (Or.inl rfl) e2
    exact g0 x1 q1 lv2 e2_0 e2_1 e2_2 e2_3 c10
  · refine hM_ic (n := (-1)) rfl (by decide) rfl (fun x3 q3 => ?_) -- 13
    refine hI_ri rfl rfl ?_ -- 14
    exact g1 x3 q3 c10
theorem s_ov17 {r c k : Int} (M : MX 49 W ρ m A h0 h F V G) (e0 : m_lk lv 0 = some (.ref m)) {lx1 : Int32} (e1 : m_lk lv 1 = some (.int lx1)) (lq1 : lx1.toInt = r) {lx2 : Int32} (e2 : m_lk lv 2 = some (.int lx2)) (lq2 : lx2.toInt = c) {lx3 : Int32} (e3 : m_lk lv 3 = some (.int lx3)) (lq3 : lx3.toInt = k) (k0 : 0 ≤ k)
    (g0 : ∀ x4 : Int32, x4.toInt = (-1) → 0 ≤ F 35 → F 35 ≤ 41 → k ≥ (F 35) - 1 → Q (some (.int x4)) h)
    (g1 : 0 ≤ F 35 → F 35 ≤ 41 → k < (F 35) - 1 → HJ 224 0 (lv_args 0 [.ref m, .int lx3]) [] h (fun v h' => HJ 274 32 lv (v.toList ++ []) h' Q))
    : HJ 274 17 lv [] h Q := by
  refine hI_il (k := 3) rfl e3 rfl ?_ -- 17
  refine hI_al (k := 0) rfl e0 rfl ?_ -- 18
  refine hM_gi M (by decide) rfl rfl rfl (k := 35) (c := 9) (lo := 0) (hi := 41) rfl rfl rfl rfl rfl (fun x1 q1 a1 b1 => ?_) -- 19
  refine hM_ic (n := 1) rfl (by decide) rfl (fun x2 q2 => ?_) -- 22
  refine hM_sub rfl q1 q2 (by omega) (by omega) rfl (fun x3 q3 => ?_) -- 23
  refine hM_cge (off := 20) (t := 44) rfl lq3 q3 (by decide) rfl (fun c24 => ?_) (fun c24 => ?_) -- 24
  · refine hM_ic (n := (-1)) rfl (by decide) rfl (fun x4 q4 => ?_) -- 44
    refine hI_ri rfl rfl ?_ -- 45
    exact g0 x4 q4 a1 b1 c24
  · refine hI_al (k := 0) rfl e0 rfl ?_ -- 27
    refine hI_il (k := 3) rfl e3 rfl ?_ -- 28
    refine hM_iv M (by decide) rfl rfl (by decide) (as := [.int lx3]) (r := []) rfl rfl (by decide +kernel) rfl (by decide +kernel) rfl rfl rfl rfl rfl ?_ -- 29
    exact g1 a1 b1 c24
theorem s_ov32 {z r c k : Int} (M : MX 49 W ρ m A h0 h F V G) (e0 : m_lk lv 0 = some (.ref m)) {lx1 : Int32} (e1 : m_lk lv 1 = some (.int lx1)) (lq1 : lx1.toInt = r) {lx2 : Int32} (e2 : m_lk lv 2 = some (.int lx2)) (lq2 : lx2.toInt = c) {lx3 : Int32} (e3 : m_lk lv 3 = some (.int lx3)) (lq3 : lx3.toInt = k) {sx0 : Int32} (sq0 : sx0.toInt = z) (k0 : 0 ≤ k) (k1 : k ≤ 39)
    (g0 : ∀ x1 : Int32, x1.toInt = k + 1 → ∀ lv1 : List (Nat × Value), m_lk lv1 0 = some (.ref m) → m_lk lv1 1 = some (.int lx1) → m_lk lv1 2 = some (.int lx2) → m_lk lv1 3 = some (.int x1) → z ≤ c → HJ 274 17 lv1 [] h Q)
    (g1 : z > c → Q (some (.int lx3)) h)
    : HJ 274 32 lv [.int sx0] h Q := by
  refine hI_il (k := 2) rfl e2 rfl ?_ -- 32
  refine hM_cle (off := 5) (t := 38) rfl sq0 lq2 (by decide) rfl (fun c33 => ?_) (fun c33 => ?_) -- 33
  · refine hM_inc (k := 3) (z := 1) rfl e3 lq3 (by decide) (by omega) (by omega) (by decide +kernel) rfl (fun lv1 x1 q1 e1_3 u1 => ?_) -- 38
    have e1_0 := u1 0 _ (by decide) (Or.inl rfl) e0
    have e1_1 := u1 1 _ (by decide) (Or.inl rfl) e1
    have e1_2 := u1 2 _ (by decide) (Or.inl rfl) e2
    refine hI_go (pc' := 17) (off := (-24)) rfl (by decide) ?_ -- 41
    exact g0 x1 q1 lv1 e1_0 e1_1 e1_2 e1_3 c33
  · refine hI_il (k := 3) rfl e3 rfl ?_ -- 36
    refine hI_ri rfl rfl ?_ -- 37
    exact g1 c33
theorem c_cvover {xr xc : Int32} (ht : TH c_sp ρ h) (n15 : c_PT 15 ρ h) (g : ∀ z : Int32, ov_q (ac_Y h (q_ac h (h_r h 16 0) xr.toInt.toNat)) (0 ≤ xr.toInt ∧ xr.toInt < q_fd h (h_r h 16 0) 5) xc.toInt z.toInt → Q (some (.int z)) h) : HJ 144 0 (lv_args 0 [.ref 16, .int xr, .int xc]) [] h Q := by
  have h16 := n15.1
  refine hI_al (k := 0) rfl rfl rfl ?_
  refine hI_il (k := 1) rfl rfl rfl ?_
  refine hM_iv (MX.start (W := []) ht h16) (by decide) rfl rfl (by decide) (as := [.int xr]) (r := []) rfl rfl (by decide +kernel) rfl (by decide +kernel) rfl rfl rfl rfl rfl ?_
  refine r_pastOf ht h16 (fun p hp => ?_)
  show HJ 144 5 _ [.ref p] h Q
  refine hI_as (k := 3) rfl (by decide +kernel) rfl ?_
  refine hI_al (k := 3) rfl rfl rfl ?_
  rcases hp with ⟨r0, r1, ep⟩ | ⟨hb, ep⟩
  · obtain ⟨r4, p0, bk, fp⟩ := pb_at ht n15 r0 r1
    rw [← ep] at p0 bk fp
    obtain ⟨⟨bs, bs1, bs2⟩, -, bm, -⟩ := bk
    have cp := t_spec ht (by decide) (rfl : c_sp[29]? = some _) fp
    have cd := t_spec ht (by decide) (rfl : c_sp[34]? = some _) (past_row ht fp 15 (by decide))
    have ld : 40 ≤ (h_k h (pa_w h p 15)).2 := cd.2.1.1
    generalize ac_Y h (q_ac h (h_r h 16 0) xr.toInt.toNat) = Y at *
    refine hI_nn (t := 14) rfl (by decide) rfl (Or.inr (cp.2.2.1 rfl)) (fun _ => ?_) (fun z => absurd z p0)
    refine hI_al (k := 3) rfl rfl rfl ?_
    refine hI_il (k := 2) rfl rfl rfl ?_
    refine hM_iv (MX.start (W := []) ht fp) (by decide) rfl rfl (by decide) (as := [.int xc]) (r := []) rfl rfl (by decide +kernel) rfl (by decide +kernel) rfl rfl rfl rfl rfl ?_
    refine r_fp0 (RX.start h) rfl rfl rfl (fun x1 q1 lv2 a0 a1 a2 => l_fp (p := p) (Y := Y) (RX.start h) cp.1 cd.1 (by show (40 : Int) ≤ ((h_k h (pa_w h p 15)).2 : Int); omega) bs bs2 (fun k hk => (bm k hk).2.2) (fun z qz => ?_) (ry_v Y - 1) 0 lv2 x1 (by omega) q1 (fun j hj => absurd hj (Nat.not_lt_zero j)) a0 a1 a2)
    show HJ 144 19 _ [.int z] h Q
    exact hI_ri rfl rfl (g z (Or.inr ⟨⟨r0, r1⟩, qz⟩))
  · subst ep
    refine hI_nn (t := 14) rfl (by decide) rfl (Or.inl rfl) (fun z => absurd rfl z) (fun _ => ?_)
    refine hM_ic (n := (-1)) rfl (by decide) rfl (fun x q => ?_)
    refine hI_go (pc' := 19) (off := 8) rfl (by decide) ?_
    exact hI_ri rfl rfl (g x (Or.inl ⟨hb, q⟩))
theorem l_mov {Y : RYt} {n : Nat} {xr xc : Int32} {r : Int} (M : MX 49 W ρ m A h0 h F V G) (qr : xr.toInt = r) (y : ry_of (m_u F 19 0) V (ry_z Y)) (o : ry_ok Y n) (n40 : n ≤ 40) (pd : ∀ k : Nat, k + 1 < ry_v Y → -2147483648 ≤ ry_pd Y k ∧ ry_pd Y k ≤ 2147483647) (g : ∀ z : Int32, ov_s Y xc.toInt z.toInt → Q (some (.int z)) h) : ∀ (d k : Nat) (lv : List (Nat × Value)) (xk : Int32), k + 1 + d = ry_v Y → xk.toInt = (k : Int) → (∀ j, j < k → ry_pd Y j ≤ xc.toInt) → m_lk lv 0 = some (.ref m) → m_lk lv 1 = some (.int xr) → m_lk lv 2 = some (.int xc) → m_lk lv 3 = some (.int xk) → HJ 274 17 lv [] h Q := by
  have yv : F 35 = (ry_v Y : Int) := by
    have := y.2.2.1
    rw [m_uN _ _ _ _ (by decide)] at this
    exact this
  have vn := o.2.1.1
  intro d
  induction d with
  | zero =>
    intro k lv xk hd qk lo e0 e1 e2 e3
    exact s_ov17 M e0 e1 qr e2 rfl e3 qk (by omega) (fun x q _ _ _ => g x (Or.inr ⟨fun j hj => lo j (by omega), q⟩)) (fun _ _ c => absurd c (by omega))
  | succ d ih =>
    intro k lv xk hd qk lo e0 e1 e2 e3
    refine s_ov17 M e0 e1 qr e2 rfl e3 qk (by omega) (fun x q _ _ c => absurd c (by omega)) (fun _ _ _ => ?_)
    refine c_mpaid M qk (by omega) (by omega) (fun xp w qp => ?_)
    show HJ 274 32 lv [.int xp] h Q
    have ek : ((k : Int)).toNat = k := Int.toNat_natCast k
    have e := di_rf (k := k) (w := w) (x := xp.toInt) y o (by omega) (by rw [qp, ek])
    have b := pd k (by omega)
    have p1 : -2147483648 ≤ xp.toInt := (g_iT xp).1
    have p2 : xp.toInt ≤ 2147483647 := (g_iT xp).2
    have e' : xp.toInt = ry_pd Y k := by omega
    refine s_ov32 M e0 e1 qr e2 rfl e3 qk e' (by omega) (by omega) (fun x1 q1 lv1 a0 a1 a2 a3 c => ?_) (fun c => g xk (Or.inl ⟨k, by omega, c, lo, qk⟩))
    refine ih (k + 1) lv1 x1 (by omega) (by omega) (fun j hj => ?_) a0 a1 a2 a3
    by_cases ej : j = k
    · rw [ej]
      exact c
    · exact lo j (by omega)
theorem c_mover {Y : RYt} {r : Int} {xr xc : Int32} (M : MX 49 W ρ m A h0 h F V G) (hw : d_sub g_la W = true) (hw0 : d_sub [(49, 0)] W = true) (qr : xr.toInt = r) (rw_ : p_rw (V 6)) (ok : 0 ≤ r → r < V 5 0 → ((∃ n, n ≤ 40 ∧ ry_ok Y n) ∧ ∀ F' V', ly_E (fun j => V 6 (161 * r.toNat + 1 + j)) (V 6 (161 * r).toNat).toNat F' V' → ry_of (m_u F' 19 0) V' (ry_z Y)) ∧ ∀ k : Nat, k + 1 < ry_v Y → -2147483648 ≤ ry_pd Y k ∧ ry_pd Y k ≤ 2147483647) (g : ∀ (x : Int32) (h' : MH) (F' : Nat → Int) (V' : Nat → Nat → Int) (G' : Nat → Nat → Int64), MX 49 W ρ m A h0 h' F' V' G' → ov_q Y (0 ≤ r ∧ r < V 5 0) xc.toInt x.toInt → Q (some (.int x)) h') : HJ 274 0 (lv_args 0 [.ref m, .int xr, .int xc]) [] h Q := by
  refine s_ov0 M rfl rfl qr rfl rfl hw0 (fun h2 F2 f2 M2 => ?_)
  refine c_lay M2 rfl rfl hw qr rw_ (fun x h3 F3 V3 G3 M3 hx => ?_)
  show HJ 274 10 _ [.int x] h3 Q
  refine s_ov10 (z := x.toInt) M3 rfl rfl qr rfl rfl rfl (fun x1 q1 lv2 a0 a1 a2 a3 c => ?_) (fun y q c => ?_)
  · rcases hx with ⟨q, -⟩ | ⟨-, -, r0, r1, e⟩
    · omega
    · obtain ⟨⟨⟨n, n40, o⟩, E⟩, pd⟩ := ok r0 r1
      have vn := o.2.1.1
      exact l_mov M3 qr (E F3 V3 e) o n40 pd (fun z qz => g z h3 F3 V3 G3 M3 (Or.inr ⟨⟨r0, r1⟩, qz⟩)) n 0 lv2 x1 (by omega) q1 (fun j hj => absurd hj (Nat.not_lt_zero j)) a0 a1 a2 a3
  · rcases hx with ⟨-, hb⟩ | ⟨q2, -⟩
    · exact g y h3 F3 V3 G3 M3 (Or.inl ⟨hb, q⟩)
    · omega
end
