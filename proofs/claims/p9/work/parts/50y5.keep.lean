-- THE REFERENCE'S IMAGES
section
variable {lv : List (Nat × Value)} {Q : Option Value → MH → Prop} {W : List (Nat × Nat)} {ρ : Nat → Nat} {m : Nat} {A : Nat → Nat} {h0 h : MH} {F : Nat → Int} {V : Nat → Nat → Int} {G : Nat → Nat → Int64}
theorem s_mi0 {k : Int} (M : MX 49 W ρ m A h0 h F V G) (e0 : m_lk lv 0 = some (.ref m)) {lx1 : Int32} (e1 : m_lk lv 1 = some (.int lx1)) (lq1 : lx1.toInt = k) (hw : d_sub [(49, 0)] W = true)
    (g0 : ∀ h2 : MH, ∀ F2 : Nat → Int, F2 = m_u F 0 (0) → ∀ x3 : Int32, x3.toInt = 0 → ∀ x4 : Int32, x4.toInt = 2 → MX 49 W ρ m A h0 h2 F2 V G → HJ 186 0 (lv_args 0 [.int lx1, .int x3, .int x4]) [] h2 (fun v h' => HJ 288 11 lv (v.toList ++ []) h' Q))
    : HJ 288 0 lv [] h Q := by
  refine hI_al (k := 0) rfl e0 rfl ?_ -- 0
  refine hM_ic (n := 0) rfl (by decide) rfl (fun x1 q1 => ?_) -- 1
  refine hM_pi M (by decide) ok_49 rfl rfl (k := 0) (c := 9) (lo := (-2147483648)) (hi := 2147483647) rfl rfl ⟨by decide, by decide +kernel, rfl⟩ rfl (d_subm hw (by decide +kernel)) q1 (by omega) (by omega) rfl (fun h2 F2 f2 M2 => ?_) -- 2
  refine hI_il (k := 1) rfl e1 rfl ?_ -- 5
  refine hM_ic (n := 0) rfl (by decide) rfl (fun x3 q3 => ?_) -- 6
  refine hM_ic (n := 2) rfl (by decide) rfl (fun x4 q4 => ?_) -- 7
  refine hM_is0 (as := [.int lx1, .int x3, .int x4]) (r := []) rfl rfl (by decide +kernel) rfl rfl rfl rfl rfl ?_ -- 8
  exact g0 h2 F2 f2 x3 q3 x4 q4 M2
theorem s_mi11 {k z : Int} (M : MX 49 W ρ m A h0 h F V G) (e0 : m_lk lv 0 = some (.ref m)) {lx1 : Int32} (e1 : m_lk lv 1 = some (.int lx1)) (lq1 : lx1.toInt = k) {sx0 : Int32} (sq0 : sx0.toInt = z) 
    (g0 : z ≠ 0 → HJ 288 16 lv [] h Q)
    (g1 : ∀ x1 : Int32, x1.toInt = 0 → z = 0 → Q (some (.int x1)) h)
    : HJ 288 11 lv [.int sx0] h Q := by
  refine hM_zne (off := 5) (t := 16) rfl sq0 (by decide) rfl (fun c11 => ?_) (fun c11 => ?_) -- 11
  · exact g0 c11
  · refine hM_ic (n := 0) rfl (by decide) rfl (fun x1 q1 => ?_) -- 14
    refine hM_rb rfl rfl q1 (by omega) (by omega) ?_ -- 15
    exact g1 x1 q1 c11
theorem s_mi16 {k : Int} (M : MX 49 W ρ m A h0 h F V G) (e0 : m_lk lv 0 = some (.ref m)) {lx1 : Int32} (e1 : m_lk lv 1 = some (.int lx1)) (lq1 : lx1.toInt = k) (k0 : 0 ≤ k) (k1 : k ≤ 2)
    (g0 : ∀ x1 : Int32, x1.toInt = 0 → ∀ x3 : Int32, x3.toInt = k + 1 → HJ 289 0 (lv_args 0 [.ref m, .int x1, .int x3]) [] h (fun v h' => HJ 288 24 lv (v.toList ++ []) h' Q))
    : HJ 288 16 lv [] h Q := by
  refine hI_al (k := 0) rfl e0 rfl ?_ -- 16
  refine hM_ic (n := 0) rfl (by decide) rfl (fun x1 q1 => ?_) -- 17
  refine hI_il (k := 1) rfl e1 rfl ?_ -- 18
  refine hM_ic (n := 1) rfl (by decide) rfl (fun x2 q2 => ?_) -- 19
  refine hM_add rfl lq1 q2 (by omega) (by omega) rfl (fun x3 q3 => ?_) -- 20
  refine hM_iv M (by decide) rfl rfl (by decide) (as := [.int x1, .int x3]) (r := []) rfl rfl (by decide +kernel) rfl (by decide +kernel) rfl rfl rfl rfl rfl ?_ -- 21
  exact g0 x1 q1 x3 q3
theorem s_mi24 {k : Int} (M : MX 49 W ρ m A h0 h F V G) (e0 : m_lk lv 0 = some (.ref m)) {lx1 : Int32} (e1 : m_lk lv 1 = some (.int lx1)) (lq1 : lx1.toInt = k) (k0 : 0 ≤ k) (k1 : k ≤ 2)(hw : d_sub [(96, 1001)] W = true)
    (g0 : ∀ h2 : MH, ∀ V2 : Nat → Nat → Int, V2 = m_u V 67 (m_u (V 67) (k).toNat (1)) → ∀ x3 : Int32, x3.toInt = 1 → MX 49 W ρ m A h0 h2 F V2 G → Q (some (.int x3)) h2)
    : HJ 288 24 lv [] h Q := by
  refine hI_al (k := 0) rfl e0 rfl ?_ -- 24
  refine hM_ga M (by decide) rfl rfl (k := 67) (c := 9) rfl rfl rfl (by decide +kernel) rfl ?_ -- 25
  refine hI_il (k := 1) rfl e1 rfl ?_ -- 28
  refine hM_ic (n := 1) rfl (by decide) rfl (fun x1 q1 => ?_) -- 29
  refine hM_zs M (by decide) ok_49 (K := 67) (R2 := 96) (L := 3) (H := 3) rfl (by decide) rfl rfl rfl (fun _ => rfl) (d_subm hw (by decide +kernel)) rfl lq1 q1 (by omega) (by omega) (by omega) (by omega) rfl (fun h2 V2 f2 M2 => ?_) -- 30
  refine hM_ic (n := 1) rfl (by decide) rfl (fun x3 q3 => ?_) -- 31
  refine hM_rb rfl rfl q3 (by omega) (by omega) ?_ -- 32
  exact g0 h2 V2 f2 x3 q3 M2
theorem s_ma0 {k : Int} (M : MX 49 W ρ m A h0 h F V G) (e0 : m_lk lv 0 = some (.ref m)) {lx1 : Int32} (e1 : m_lk lv 1 = some (.int lx1)) (lq1 : lx1.toInt = k) (hw : d_sub [(49, 0)] W = true)
    (g0 : ∀ h2 : MH, ∀ F2 : Nat → Int, F2 = m_u F 0 (0) → ∀ x3 : Int32, x3.toInt = 0 → ∀ x4 : Int32, x4.toInt = 2 → MX 49 W ρ m A h0 h2 F2 V G → HJ 186 0 (lv_args 0 [.int lx1, .int x3, .int x4]) [] h2 (fun v h' => HJ 291 11 lv (v.toList ++ []) h' Q))
    : HJ 291 0 lv [] h Q := by
  refine hI_al (k := 0) rfl e0 rfl ?_ -- 0
  refine hM_ic (n := 0) rfl (by decide) rfl (fun x1 q1 => ?_) -- 1
  refine hM_pi M (by decide) ok_49 rfl rfl (k := 0) (c := 9) (lo := (-2147483648)) (hi := 2147483647) rfl rfl ⟨by decide, by decide +kernel, rfl⟩ rfl (d_subm hw (by decide +kernel)) q1 (by omega) (by omega) rfl (fun h2 F2 f2 M2 => ?_) -- 2
  refine hI_il (k := 1) rfl e1 rfl ?_ -- 5
  refine hM_ic (n := 0) rfl (by decide) rfl (fun x3 q3 => ?_) -- 6
  refine hM_ic (n := 2) rfl (by decide) rfl (fun x4 q4 => ?_) -- 7
  refine hM_is0 (as := [.int lx1, .int x3, .int x4]) (r := []) rfl rfl (by decide +kernel) rfl rfl rfl rfl rfl ?_ -- 8
  exact g0 h2 F2 f2 x3 q3 x4 q4 M2
theorem s_ma11 {k z : Int} (M : MX 49 W ρ m A h0 h F V G) (e0 : m_lk lv 0 = some (.ref m)) {lx1 : Int32} (e1 : m_lk lv 1 = some (.int lx1)) (lq1 : lx1.toInt = k) {sx0 : Int32} (sq0 : sx0.toInt = z) 
    (g0 : ∀ x1 : Int32, x1.toInt = 0 → z = 0 → Q (some (.int x1)) h)
    (g1 : z ≠ 0 → HJ 291 14 lv [] h Q)
    : HJ 291 11 lv [.int sx0] h Q := by
  refine hM_zeq (off := 12) (t := 23) rfl sq0 (by decide) rfl (fun c11 => ?_) (fun c11 => ?_) -- 11
  · refine hM_ic (n := 0) rfl (by decide) rfl (fun x1 q1 => ?_) -- 23
    refine hM_rb rfl rfl q1 (by omega) (by omega) ?_ -- 24
    exact g0 x1 q1 c11
  · exact g1 c11
theorem s_ma14 {k : Int} (M : MX 49 W ρ m A h0 h F V G) (e0 : m_lk lv 0 = some (.ref m)) {lx1 : Int32} (e1 : m_lk lv 1 = some (.int lx1)) (lq1 : lx1.toInt = k) (k0 : 0 ≤ k) (k1 : k ≤ 2)
    (g0 : ∀ x3 : Int32, x3.toInt = k + 1 → ∀ x4 : Int32, x4.toInt = 0 → V 67 (k).toNat ≠ 0 → HJ 289 0 (lv_args 0 [.ref m, .int x3, .int x4]) [] h (fun v h' => HJ 291 33 lv (v.toList ++ []) h' Q))
    (g1 : ∀ x5 : Int32, x5.toInt = 0 → V 67 (k).toNat = 0 → Q (some (.int x5)) h)
    : HJ 291 14 lv [] h Q := by
  refine hI_al (k := 0) rfl e0 rfl ?_ -- 14
  refine hM_ga M (by decide) rfl rfl (k := 67) (c := 9) rfl rfl rfl (by decide +kernel) rfl ?_ -- 15
  refine hI_il (k := 1) rfl e1 rfl ?_ -- 18
  refine hM_ba M (by decide) (K := 67) (R2 := 96) (L := 3) (H := 3) (lo := (-2147483648)) (hi := 2147483647) rfl (by decide) rfl rfl (Or.inr rfl) (fun _ => rfl) rfl lq1 (by omega) (by omega) rfl (fun x1 q1 a1 b1 => ?_) -- 19
  refine hM_zne (off := 5) (t := 25) rfl q1 (by decide) rfl (fun c20 => ?_) (fun c20 => ?_) -- 20
  · refine hI_al (k := 0) rfl e0 rfl ?_ -- 25
    refine hI_il (k := 1) rfl e1 rfl ?_ -- 26
    refine hM_ic (n := 1) rfl (by decide) rfl (fun x2 q2 => ?_) -- 27
    refine hM_add rfl lq1 q2 (by omega) (by omega) rfl (fun x3 q3 => ?_) -- 28
    refine hM_ic (n := 0) rfl (by decide) rfl (fun x4 q4 => ?_) -- 29
    refine hM_iv M (by decide) rfl rfl (by decide) (as := [.int x3, .int x4]) (r := []) rfl rfl (by decide +kernel) rfl (by decide +kernel) rfl rfl rfl rfl rfl ?_ -- 30
    exact g0 x3 q3 x4 q4 c20
  · refine hM_ic (n := 0) rfl (by decide) rfl (fun x5 q5 => ?_) -- 23
    refine hM_rb rfl rfl q5 (by omega) (by omega) ?_ -- 24
    exact g1 x5 q5 c20
theorem s_ma33   
    (g0 : ∀ x1 : Int32, x1.toInt = 1 → Q (some (.int x1)) h)
    : HJ 291 33 lv [] h Q := by
  refine hM_ic (n := 1) rfl (by decide) rfl (fun x1 q1 => ?_) -- 33
  refine hM_rb rfl rfl q1 (by omega) (by omega) ?_ -- 34
  exact g0 x1 q1
-- how the whole told state is copied: what is asked of it
def ca_ok (W : List (Nat × Nat)) (ρ : Nat → Nat) (m : Nat) (A : Nat → Nat) (h0 : MH) (V : Nat → Nat → Int) (G : Nat → Nat → Int64) (Ψ : Int → Int → MH → (Nat → Nat → Int) → Prop) : Prop := ∀ (h : MH) (F : Nat → Int) (x1 x2 : Int32) (Q' : Option Value → MH → Prop), MX 49 W ρ m A h0 h F V G → 0 ≤ x1.toInt → x1.toInt ≤ 3 → 0 ≤ x2.toInt → x2.toInt ≤ 3 → x1.toInt ≠ x2.toInt → (∀ (h' : MH) (F' : Nat → Int) (V' : Nat → Nat → Int) (G' : Nat → Nat → Int64), MX 49 W ρ m A h0 h' F' V' G' → V' 67 = V 67 → Ψ x1.toInt x2.toInt h' V' → Q' none h') → HJ 289 0 (lv_args 0 [.ref m, .int x1, .int x2]) [] h Q'
theorem c_mimage {Ψ : Int → Int → MH → (Nat → Nat → Int) → Prop} {k : Int} {xk : Int32} (M : MX 49 W ρ m A h0 h F V G) (e0 : m_lk lv 0 = some (.ref m)) (e1 : m_lk lv 1 = some (.int xk)) (qk : xk.toInt = k) (w0 : d_sub [(49, 0)] W = true) (w1 : d_sub [(96, 1001)] W = true) (ca : ca_ok W ρ m A h0 V G Ψ) (g0 : ∀ (x : Int32) (h' : MH) (F' : Nat → Int), x.toInt = 0 → k < 0 ∨ 2 < k → MX 49 W ρ m A h0 h' F' V G → Q (some (.int x)) h') (g1 : ∀ (x : Int32) (h1 h' : MH) (F' : Nat → Int) (V1 : Nat → Nat → Int) (G' : Nat → Nat → Int64), x.toInt = 1 → 0 ≤ k → k ≤ 2 → V1 67 = V 67 → MX 49 W ρ m A h0 h1 F' V1 G' → Ψ 0 (k + 1) h1 V1 → MX 49 W ρ m A h0 h' F' (m_u V1 67 (m_u (V1 67) k.toNat 1)) G' → Q (some (.int x)) h') : HJ 288 0 lv [] h Q :=
  s_mi0 M e0 e1 qk w0 (fun h2 F2 f2 x3 q3 x4 q4 M2 => c_in M2 qk q3 q4 (fun z hz => s_mi11 (z := z.toInt) M2 e0 e1 qk rfl (fun c => by
    have hb : 0 ≤ k ∧ k ≤ 2 := by omega
    refine s_mi16 M2 e0 e1 qk hb.1 hb.2 (fun x1 q1 x5 q5 => ca h2 F2 x1 x5 _ M2 (by omega) (by omega) (by omega) (by omega) (by omega) (fun h6 F6 V6 G6 M6 v6 ψ => ?_))
    rw [q1, q5] at ψ
    exact s_mi24 M6 e0 e1 qk hb.1 hb.2 w1 (fun h7 V7 f7 x7 q7 M7 => by
      rw [f7] at M7
      exact g1 x7 h6 h7 F6 V6 G6 q7 hb.1 hb.2 v6 M6 ψ M7)) (fun x1 q1 c => g0 x1 h2 F2 q1 (by omega) M2)))
theorem c_magain {Ψ : Int → Int → MH → (Nat → Nat → Int) → Prop} {k : Int} {xk : Int32} (M : MX 49 W ρ m A h0 h F V G) (e0 : m_lk lv 0 = some (.ref m)) (e1 : m_lk lv 1 = some (.int xk)) (qk : xk.toInt = k) (w0 : d_sub [(49, 0)] W = true) (ca : ca_ok W ρ m A h0 V G Ψ) (g0 : ∀ (x : Int32) (h' : MH) (F' : Nat → Int), x.toInt = 0 → (k < 0 ∨ 2 < k) ∨ (0 ≤ k ∧ k ≤ 2 ∧ V 67 k.toNat = 0) → MX 49 W ρ m A h0 h' F' V G → Q (some (.int x)) h') (g1 : ∀ (x : Int32) (h' : MH) (F' : Nat → Int) (V' : Nat → Nat → Int) (G' : Nat → Nat → Int64), x.toInt = 1 → 0 ≤ k → k ≤ 2 → V 67 k.toNat ≠ 0 → V' 67 = V 67 → Ψ (k + 1) 0 h' V' → MX 49 W ρ m A h0 h' F' V' G' → Q (some (.int x)) h') : HJ 291 0 lv [] h Q :=
  s_ma0 M e0 e1 qk w0 (fun h2 F2 f2 x3 q3 x4 q4 M2 => c_in M2 qk q3 q4 (fun z hz => s_ma11 (z := z.toInt) M2 e0 e1 qk rfl (fun x1 q1 c => g0 x1 h2 F2 q1 (Or.inl (by omega)) M2) (fun c => by
    have hb : 0 ≤ k ∧ k ≤ 2 := by omega
    refine s_ma14 M2 e0 e1 qk hb.1 hb.2 (fun x3 q3 x4 q4 c20 => ca h2 F2 x3 x4 _ M2 (by omega) (by omega) (by omega) (by omega) (by omega) (fun h6 F6 V6 G6 M6 v6 ψ => ?_)) (fun x5 q5 c20 => g0 x5 h2 F2 q5 (Or.inr ⟨hb.1, hb.2, c20⟩) M2)
    rw [q3, q4] at ψ
    exact s_ma33 (fun x7 q7 => g1 x7 h6 F6 V6 G6 q7 hb.1 hb.2 c20 v6 ψ M6))))
theorem hv_7 (M : MX 49 W ρ m A h0 h F V G) (um : t_um ρ) (rw_ : p_rw (V 6)) : c_PT 7 ρ h := ⟨um, fun m' hm' => by
  rw [um m' m hm' M.1.2.1]
  show p_rw (fun j => (h_i h (h_r h m 6) j).toInt)
  rw [M.v (by decide +kernel)]
  exact rw_⟩
theorem hv_7i (M : MX 49 W ρ m A h0 h F V G) (t : c_PT 7 ρ h) : p_rw (V 6) := by
  have := t.2 m M.1.2.1
  rw [← M.v (K := 6) (by decide +kernel)]
  exact this
-- the images kept, told by the reference's row
theorem hv_10 (M : MX 49 W ρ m A h0 h F V G) (um : t_um ρ) (h16 : ρ 16 = 6) (k : ∀ k, k < 3 → (r_im h k = 0 ↔ V 67 k = 0)) : c_PT 10 ρ h := ⟨h16, um, fun m' hm' j hj => by
  rw [um m' m hm' M.1.2.1, k j hj, ← M.v (K := 67) (by decide +kernel)]
  rfl⟩
theorem hv_10i (M : MX 49 W ρ m A h0 h F V G) (t : c_PT 10 ρ h) : ∀ k, k < 3 → (r_im h k = 0 ↔ V 67 k = 0) := fun k hk => by
  rw [t.2.2 m M.1.2.1 k hk, ← M.v (K := 67) (by decide +kernel)]
  rfl
end
-- THE LAW'S ARGUMENTS: script[i + n]
theorem hL_arg {pc s : Nat} {n : Int} {x : Int32} {lv : List (Nat × Value)} {st : List Value} {h : MH} {Q : Option Value → MH → Prop} {ρ : Nat → Nat} (a1 : m_at 0 pc = some (.aload_n 0, 1)) (a2 : m_at 0 (pc + 1) = some (.iload_n 3, 1)) (a3 : m_at 0 (pc + 2) = some (.iconst n, 1)) (a4 : m_at 0 (pc + 3) = some (.iadd, 1)) (a5 : m_at 0 (pc + 4) = some (.iaload, 1)) (hn : (Int32.ofInt n).toInt = n) (n1 : 1 ≤ n) (n6 : n ≤ 6) (e0 : m_lk lv 0 = some (.ref s)) (e3 : m_lk lv 3 = some (.int x)) (ht : TH c_sp ρ h) (hs : ρ s = 5) (x0 : 0 ≤ x.toInt) (x1 : x.toInt + 7 ≤ ((h_k h s).2 : Int)) (g : HJ 0 (pc + 5) lv (.int (h_i h s (x.toInt + n).toNat) :: st) h Q) : HJ 0 pc lv st h Q := by
  have c := t_spec ht (by decide) (rfl : c_sp[5]? = some _) hs
  have l9 : ((h_k h s).2 : Int) ≤ 448 := by
    have z : (h_k h s).2 ≤ 448 := c.2.1.2
    omega
  refine hI_al (k := 0) a1 e0 rfl ?_
  refine hI_il (k := 3) a2 e3 rfl ?_
  refine hM_ic a3 hn rfl (fun y q => ?_)
  refine hM_add a4 rfl q (by omega) (by omega) rfl (fun w qw => ?_)
  refine hI_ia a5 c.1 (by omega) (by omega) rfl ?_
  rw [qw]
  exact g
-- the state in which a case of the law begins, and the one behind it
def c_lS : AST := (([(3, (0, 512)), (4, (7, 448))], [([(3, 1), (4, (-1))], 7)]), ([((0, (5, 1000)), .inl ([(4, 1)], 0))], ((k_pins 3, List.range 3), (5, ([(0, .inr (.inr (0, (5, true)))), (1, .inr (.inr (1, (6, true)))), (2, .inr (.inr (2, (49, true)))), (3, .inl ([(3, 1)], 0))], [])))))
theorem lc_in {ρ : Nat → Nat} {K : List Int} {KA : List Nat} {lv : List (Nat × Value)} {h : MH} {σ : Nat → Int} {α : Nat → Nat} (hw : TW ρ K KA c_lS lv [] h σ α) : (m_lk lv 0 = some (.ref (α 0)) ∧ ρ (α 0) = 5) ∧ (m_lk lv 1 = some (.ref (α 1)) ∧ ρ (α 1) = 6) ∧ (m_lk lv 2 = some (.ref (α 2)) ∧ ρ (α 2) = 49) ∧ ∃ x : Int32, m_lk lv 3 = some (.int x) ∧ x.toInt = σ 3 ∧ 0 ≤ x.toInt ∧ x.toInt ≤ 512 ∧ x.toInt + 7 ≤ ((h_k h (α 0)).2 : Int) := by
  obtain ⟨w1, w2, w3, w4, w5, w6, -⟩ := hw
  obtain ⟨x, ex, qx⟩ := hv_int w6 (k := 3) (n := 3) (List.mem_of_getElem? (i := 3) rfl)
  have b1 := w1 (3, (0, 512)) (List.mem_of_getElem? (i := 0) rfl)
  have b2 := w2 ([(3, 1), (4, (-1))], 7) (List.mem_of_getElem? (i := 0) rfl)
  have b3 : ((h_k h (α 0)).2 : Int) = le_ev σ ([(4, 1)], 0) := (w3 ((0, (5, 1000)), .inl ([(4, 1)], 0)) (List.mem_of_getElem? (i := 0) rfl)).2
  have b2 : 1 * σ 3 + (-1 * σ 4 + 0) + 7 ≤ 0 := b2
  have b3 : ((h_k h (α 0)).2 : Int) = 1 * σ 4 + 0 + 0 := b3
  dsimp only at b1
  exact ⟨hv_ref w6 (List.mem_of_getElem? (i := 0) rfl), hv_ref w6 (List.mem_of_getElem? (i := 1) rfl), hv_ref w6 (List.mem_of_getElem? (i := 2) rfl), x, ex, qx, by omega, by omega, by omega⟩
theorem lc_out {ρ ρ' : Nat → Nat} {W : List (Nat × Nat)} {K : List Int} {KA : List Nat} {lv : List (Nat × Value)} {h h' : MH} {σ : Nat → Int} {α : Nat → Nat} (hw : TW ρ K KA c_lS lv [] h σ α) (ht : TH c_sp ρ h) (f : FQ ρ ρ' W h h') : TW ρ' K KA c_lS lv [] h' σ α := by
  obtain ⟨w1, w2, w3, w4, w5, w6, w7⟩ := hw
  refine ⟨w1, w2, fun q hq => ?_, w4, w5, x_lv f w6, trivial⟩
  obtain ⟨⟨k1, k2⟩, k3⟩ := w3 q hq
  have hq0 : q = ((0, (5, 1000)), .inl ([(4, 1)], 0)) := List.mem_singleton.mp hq
  subst hq0
  have hl := (ht.2 _ (by rw [k2]; decide : ρ (α 0) ≠ 0)).1
  refine ⟨⟨k1, (f.2.1 _ (by rw [k2]; decide)).trans k2⟩, ?_⟩
  show ((h_k h' (α 0)).2 : Int) = _
  rw [(f.2.2.2 _ hl).1]
  exact k3
