-- THE CLASS'S SHARES BY HAND: the heaviest
def lu_sh (x : Int64) (z : Int) : Int64 := (x.toUInt64 >>> ((Int32.ofInt z).toInt64.toUInt64 &&& Int64.toUInt64 63)).toInt64
section
variable {i pc pc' : Nat} {lv : List (Nat × Value)} {st : List Value} {h : MH} {Q : Option Value → MH → Prop}
theorem hI_ladd {x y : Int64} (a : m_at i pc = some (.ladd, 1)) (hp : pc + 1 = pc') (g : HJ i pc' lv (.long (x + y) :: st) h Q) : HJ i pc lv (.long y :: .long x :: st) h Q := by
  subst hp
  exact HJ.ex a (Or.inl rfl) rfl g
theorem hI_lsub {x y : Int64} (a : m_at i pc = some (.lsub, 1)) (hp : pc + 1 = pc') (g : HJ i pc' lv (.long (x - y) :: st) h Q) : HJ i pc lv (.long y :: .long x :: st) h Q := by
  subst hp
  exact HJ.ex a (Or.inl rfl) rfl g
theorem hI_lneg {x : Int64} (a : m_at i pc = some (.lneg, 1)) (hp : pc + 1 = pc') (g : HJ i pc' lv (.long (-x) :: st) h Q) : HJ i pc lv (.long x :: st) h Q := by
  subst hp
  exact HJ.ex a (Or.inl rfl) rfl g
theorem hM_lushr {x : Int64} {y : Int32} {zy : Int} (a : m_at i pc = some (.lushr, 1)) (hy : y.toInt = zy) (hp : pc + 1 = pc') (g : HJ i pc' lv (.long (lu_sh x zy) :: st) h Q) : HJ i pc lv (.int y :: .long x :: st) h Q := by
  subst hp hy
  unfold lu_sh at g
  rw [Int32.ofInt_toInt] at g
  exact HJ.ex a (Or.inl rfl) rfl g
theorem hM_l2i {x : Int64} (a : m_at i pc = some (.l2i, 1)) (hp : pc + 1 = pc') (g : ∀ w : Int32, w.toInt = x.toInt32.toInt → HJ i pc' lv (.int w :: st) h Q) : HJ i pc lv (.long x :: st) h Q := by
  subst hp
  exact HJ.ex a (Or.inl rfl) rfl (g _ rfl)
theorem hM_iandm {x y : Int32} {zx zy : Int} (a : m_at i pc = some (.iand, 1)) (hx : x.toInt = zx) (hy : y.toInt = zy) (h0 : 0 ≤ zy) (hp : pc + 1 = pc') (g : ∀ (w : Int32) (z : Int), w.toInt = z → 0 ≤ z → z ≤ zy → (zx = 0 → z = 0) → HJ i pc' lv (.int w :: st) h Q) : HJ i pc lv (.int y :: .int x :: st) h Q := by
  subst hy
  obtain ⟨a0, a1⟩ := i_andR x y h0
  refine hI_iand a hp (g _ _ rfl a0 a1 (fun e => ?_))
  have : x = 0 := Int32.toInt_inj.mp (by rw [hx, e]; rfl)
  rw [this, Int32.zero_and]
  rfl
theorem hM_iushr {x y : Int32} (a : m_at i pc = some (.iushr, 1)) (hp : pc + 1 = pc') (g : ∀ (w : Int32) (z : Int), w.toInt = z → -2147483648 ≤ z → z ≤ 2147483647 → HJ i pc' lv (.int w :: st) h Q) : HJ i pc lv (.int y :: .int x :: st) h Q := by
  subst hp
  exact HJ.ex a (Or.inl rfl) rfl (g _ _ rfl (g_iT _).1 (g_iT _).2)
theorem hM_gn {ρ : Nat → Nat} {W : List (Nat × Nat)} {idx nest c k nd R2 : Nat} {rs : RS} {lo hi : Int} (ht : TH c_sp ρ h) (hm : ρ nd = R2) (hR : R2 ≠ 0) (hs : c_sp[R2]? = some rs) (hn : rs.2.2.1 = false) (hc : rs.1.1 = c + 1) (a : m_at i pc = some (.getfield idx, 3)) (hf : m_fl i idx = some (nest, c, k)) (hty : (m_ty c k).1 = 0) (hp0 : r_ft rs k = some (.inl (lo, hi))) (hp : pc + 3 = pc') (g : ∀ (x : Int32) (z : Int), x.toInt = z → lo ≤ z → z ≤ hi → HJ i pc' lv (.int x :: st) h Q) : HJ i pc lv (.ref nd :: st) h Q := hM_gi (MX.start (W := W) ht hm) hR hs hn hc a hf hty hp0 hp (fun x q b0 b1 => g x _ q b0 b1)
end
section
variable {i pc pc' : Nat} {lv : List (Nat × Value)} {st : List Value} {Q : Option Value → MH → Prop} {R : Nat} {W : List (Nat × Nat)} {ρ : Nat → Nat} {m : Nat} {A : Nat → Nat} {h0 h : MH} {F : Nat → Int} {V : Nat → Nat → Int} {G : Nat → Nat → Int64}
-- a row's length stays
theorem MX.len (M : MX R W ρ m A h0 h F V G) (hR : R ≠ 0) {K : Nat} (hK : rg_a R K ≠ 0) : (h_k h (A K)).2 = (h_k h0 (A K)).2 := by
  have := (M.ar hR hK).2.1
  have e : h_n h = h_n h0 := congrArg Prod.fst M.1.2.2.1
  exact congrArg Prod.snd (M.1.2.2.2 (A K) (by omega)).1
theorem hM_al {K R2 L H : Nat} {rs2 : RS} (M : MX R W ρ m A h0 h F V G) (hR : R ≠ 0) (hr : rg_a R K = R2) (h2 : R2 ≠ 0) (hs2 : c_sp[R2]? = some rs2) (hk : rs2.1.2 = (L, H)) (hH : Nat.ble H 2147483647 = true ∧ 20 ≤ rs2.1.1 ∧ rs2.1.1 < 34) (a : m_at i pc = some (.arraylength, 1)) (hp : pc + 1 = pc') (g : ∀ (x : Int32) (z : Int), x.toInt = z → (L : Int) ≤ z → z ≤ (H : Int) → z = ((h_k h0 (A K)).2 : Int) → HJ i pc' lv (.int x :: st) h Q) : HJ i pc lv (.ref (A K) :: st) h Q := by
  have hK : rg_a R K ≠ 0 := by rw [hr]; exact h2
  have a1 := (M.ar hR hK).1
  rw [hr] at a1
  have c := t_spec M.1.1 h2 hs2 a1
  have c0 := c.1
  have c1 := c.2.1
  rw [hk] at c1
  have hHn := Nat.le_of_ble_eq_true hH.1
  have c1 : L ≤ (h_k h (A K)).2 ∧ (h_k h (A K)).2 ≤ H := c1
  subst hp
  have e0 : (Int32.ofNat (h_k h (A K)).2).toInt = ((h_k h (A K)).2 : Int) := by
    rw [Int32.toInt_ofNat_of_lt]
    omega
  refine HJ.ex (pc' := pc + 1) (lv' := lv) (st' := .int (Int32.ofNat (h_k h (A K)).2) :: st) (h' := h) a (Or.inl rfl) ?_ (g (Int32.ofNat (h_k h (A K)).2) _ e0 (by omega) (by omega) (by rw [M.len hR hK]))
  show e_alen pc lv (.ref (A K) :: st) h = _
  unfold e_alen
  dsimp only
  rw [if_pos (by rw [c0]; exact hH.2)]
  rfl
theorem hM_lav {K R2 L H : Nat} {rs2 : RS} {j : Int32} {zj T : Int} (M : MX R W ρ m A h0 h F V G) (hR : R ≠ 0) (hr : rg_a R K = R2) (h2 : R2 ≠ 0) (hs2 : c_sp[R2]? = some rs2) (hk : rs2.1 = (25, (L, H))) (hl : ((h_k h0 (A K)).2 : Int) = T) (a : m_at i pc = some (.laload, 1)) (hj : j.toInt = zj) (b0 : 0 ≤ zj) (b1 : zj < T) (hp : pc + 1 = pc') (g : HJ i pc' lv (.long (G K zj.toNat) :: st) h Q) : HJ i pc lv (.int j :: .ref (A K) :: st) h Q := by
  have hK : rg_a R K ≠ 0 := by rw [hr]; exact h2
  have a1 := (M.ar hR hK).1
  rw [hr] at a1
  have c0 := (t_spec M.1.1 h2 hs2 a1).1
  rw [hk] at c0
  have e9 := M.len hR hK
  refine hI_la a c0 (by omega) (by rw [e9]; omega) hp ?_
  rw [hj, ((M.2.2 K hK).2 _).2]
  exact g
theorem hM_iav {K R2 L H : Nat} {rs2 : RS} {j : Int32} {zj T : Int} (M : MX R W ρ m A h0 h F V G) (hR : R ≠ 0) (hr : rg_a R K = R2) (h2 : R2 ≠ 0) (hs2 : c_sp[R2]? = some rs2) (hk : rs2.1 = (20, (L, H))) (hl : ((h_k h0 (A K)).2 : Int) = T) (a : m_at i pc = some (.iaload, 1)) (hj : j.toInt = zj) (b0 : 0 ≤ zj) (b1 : zj < T) (hp : pc + 1 = pc') (g : ∀ (x : Int32) (z : Int), x.toInt = z → -2147483648 ≤ z → z ≤ 2147483647 → HJ i pc' lv (.int x :: st) h Q) : HJ i pc lv (.int j :: .ref (A K) :: st) h Q := by
  have hK : rg_a R K ≠ 0 := by rw [hr]; exact h2
  have a1 := (M.ar hR hK).1
  rw [hr] at a1
  have c0 := (t_spec M.1.1 h2 hs2 a1).1
  rw [hk] at c0
  have e9 := M.len hR hK
  exact hI_ia a c0 (by omega) (by rw [e9]; omega) hp (g _ _ rfl (g_iT _).1 (g_iT _).2)
theorem hM_isv {K R2 L H : Nat} {rs2 : RS} {j x : Int32} {zj T : Int} (M : MX R W ρ m A h0 h F V G) (hR : R ≠ 0) (ok : rg_okb R = true) (hr : rg_a R K = R2) (h2 : R2 ≠ 0) (hs2 : c_sp[R2]? = some rs2) (hk : rs2.1 = (20, (L, H))) (hmd : rs2.2.1 = true) (hft : ∀ q, r_ft rs2 q = some (.inl (-2147483648, 2147483647))) (hw : d_sub [(R2, 1001)] W = true) (hl : ((h_k h0 (A K)).2 : Int) = T) (a : m_at i pc = some (.iastore, 1)) (hj : j.toInt = zj) (b0 : 0 ≤ zj) (b1 : zj < T) (hp : pc + 1 = pc') (g : ∀ (h' : MH) (V' : Nat → Nat → Int), MX R W ρ m A h0 h' F V' G → HJ i pc' lv st h' Q) : HJ i pc lv (.int x :: .int j :: .ref (A K) :: st) h Q := by
  have hK : rg_a R K ≠ 0 := by rw [hr]; exact h2
  have a1 := (M.ar hR hK).1
  rw [hr] at a1
  have c := t_spec M.1.1 h2 hs2 a1
  have c0 := c.1
  rw [hk] at c0
  have e9 := M.len hR hK
  exact hI_is_ a (c.2.2.1 hmd) c0 (by omega) (by rw [e9]; omega) hp (g _ _ (mx_si M hR ok hr h2 hs2 (hft _) hw (g_iT _).1 (g_iT _).2))
end
theorem ok_25 : rg_okb 25 = true := by decide +kernel
section
variable {lv : List (Nat × Value)} {Q : Option Value → MH → Prop} {W : List (Nat × Nat)} {ρ : Nat → Nat} {m : Nat} {A : Nat → Nat} {h0 h : MH} {F : Nat → Int} {V : Nat → Nat → Int} {G : Nat → Nat → Int64}
theorem s_bc0  {lx0 : Int64} (e0 : m_lk lv 0 = some (.long lx0)) 
    (g0 : ∀ lv2 : List (Nat × Value), m_lk lv2 0 = some (.long (lx0 - ((lu_sh lx0 (1)) &&& (6148914691236517205)))) → HJ 155 10 lv2 [] h Q)
    : HJ 155 0 lv [] h Q := by
  refine hI_ll (k := 0) rfl e0 rfl ?_ -- 0
  refine hI_ll (k := 0) rfl e0 rfl ?_ -- 1
  refine hM_ic (n := 1) rfl (by decide) rfl (fun x1 q1 => ?_) -- 2
  refine hM_lushr rfl q1 rfl ?_ -- 3
  refine hM_jc (x := 6148914691236517205) rfl rfl rfl ?_ -- 4
  refine hI_land rfl rfl ?_ -- 7
  refine hI_lsub rfl rfl ?_ -- 8
  refine hM_sl (k := 0) rfl (by decide +kernel) rfl (fun lv2 e2_0 u2 => ?_) -- 9
  exact g0 lv2 e2_0
theorem s_bc10  {lx0 : Int64} (e0 : m_lk lv 0 = some (.long lx0)) 
    (g0 : ∀ lv2 : List (Nat × Value), m_lk lv2 0 = some (.long ((lx0 &&& (3689348814741910323)) + ((lu_sh lx0 (2)) &&& (3689348814741910323)))) → HJ 155 24 lv2 [] h Q)
    : HJ 155 10 lv [] h Q := by
  refine hI_ll (k := 0) rfl e0 rfl ?_ -- 10
  refine hM_jc (x := 3689348814741910323) rfl rfl rfl ?_ -- 11
  refine hI_land rfl rfl ?_ -- 14
  refine hI_ll (k := 0) rfl e0 rfl ?_ -- 15
  refine hM_ic (n := 2) rfl (by decide) rfl (fun x1 q1 => ?_) -- 16
  refine hM_lushr rfl q1 rfl ?_ -- 17
  refine hM_jc (x := 3689348814741910323) rfl rfl rfl ?_ -- 18
  refine hI_land rfl rfl ?_ -- 21
  refine hI_ladd rfl rfl ?_ -- 22
  refine hM_sl (k := 0) rfl (by decide +kernel) rfl (fun lv2 e2_0 u2 => ?_) -- 23
  exact g0 lv2 e2_0
theorem s_bc24  {lx0 : Int64} (e0 : m_lk lv 0 = some (.long lx0)) 
    (g0 : ∀ lv2 : List (Nat × Value), m_lk lv2 0 = some (.long ((lx0 + (lu_sh lx0 (4))) &&& (1085102592571150095))) → HJ 155 34 lv2 [] h Q)
    : HJ 155 24 lv [] h Q := by
  refine hI_ll (k := 0) rfl e0 rfl ?_ -- 24
  refine hI_ll (k := 0) rfl e0 rfl ?_ -- 25
  refine hM_ic (n := 4) rfl (by decide) rfl (fun x1 q1 => ?_) -- 26
  refine hM_lushr rfl q1 rfl ?_ -- 27
  refine hI_ladd rfl rfl ?_ -- 28
  refine hM_jc (x := 1085102592571150095) rfl rfl rfl ?_ -- 29
  refine hI_land rfl rfl ?_ -- 32
  refine hM_sl (k := 0) rfl (by decide +kernel) rfl (fun lv2 e2_0 u2 => ?_) -- 33
  exact g0 lv2 e2_0
theorem s_bc34  {lx0 : Int64} (e0 : m_lk lv 0 = some (.long lx0)) 
    (g0 : ∀ lv2 : List (Nat × Value), m_lk lv2 0 = some (.long (lx0 + (lu_sh lx0 (8)))) → HJ 155 41 lv2 [] h Q)
    : HJ 155 34 lv [] h Q := by
  refine hI_ll (k := 0) rfl e0 rfl ?_ -- 34
  refine hI_ll (k := 0) rfl e0 rfl ?_ -- 35
  refine hM_bp (n := 8) rfl (by decide) rfl (fun x1 q1 => ?_) -- 36
  refine hM_lushr rfl q1 rfl ?_ -- 38
  refine hI_ladd rfl rfl ?_ -- 39
  refine hM_sl (k := 0) rfl (by decide +kernel) rfl (fun lv2 e2_0 u2 => ?_) -- 40
  exact g0 lv2 e2_0
theorem s_bc41  {lx0 : Int64} (e0 : m_lk lv 0 = some (.long lx0)) 
    (g0 : ∀ lv2 : List (Nat × Value), m_lk lv2 0 = some (.long (lx0 + (lu_sh lx0 (16)))) → HJ 155 48 lv2 [] h Q)
    : HJ 155 41 lv [] h Q := by
  refine hI_ll (k := 0) rfl e0 rfl ?_ -- 41
  refine hI_ll (k := 0) rfl e0 rfl ?_ -- 42
  refine hM_bp (n := 16) rfl (by decide) rfl (fun x1 q1 => ?_) -- 43
  refine hM_lushr rfl q1 rfl ?_ -- 45
  refine hI_ladd rfl rfl ?_ -- 46
  refine hM_sl (k := 0) rfl (by decide +kernel) rfl (fun lv2 e2_0 u2 => ?_) -- 47
  exact g0 lv2 e2_0
theorem s_bc48  {lx0 : Int64} (e0 : m_lk lv 0 = some (.long lx0)) 
    (g0 : ∀ lv2 : List (Nat × Value), m_lk lv2 0 = some (.long (lx0 + (lu_sh lx0 (32)))) → HJ 155 55 lv2 [] h Q)
    : HJ 155 48 lv [] h Q := by
  refine hI_ll (k := 0) rfl e0 rfl ?_ -- 48
  refine hI_ll (k := 0) rfl e0 rfl ?_ -- 49
  refine hM_bp (n := 32) rfl (by decide) rfl (fun x1 q1 => ?_) -- 50
  refine hM_lushr rfl q1 rfl ?_ -- 52
  refine hI_ladd rfl rfl ?_ -- 53
  refine hM_sl (k := 0) rfl (by decide +kernel) rfl (fun lv2 e2_0 u2 => ?_) -- 54
  exact g0 lv2 e2_0
theorem s_bc55  {lx0 : Int64} (e0 : m_lk lv 0 = some (.long lx0)) 
    (g0 : ∀ x3 : Int32, ∀ z3 : Int, x3.toInt = z3 → 0 ≤ z3 → z3 ≤ 127 → ((lx0.toInt32).toInt = 0 → z3 = 0) → Q (some (.int x3)) h)
    : HJ 155 55 lv [] h Q := by
  refine hI_ll (k := 0) rfl e0 rfl ?_ -- 55
  refine hM_l2i rfl rfl (fun x1 q1 => ?_) -- 56
  refine hM_bp (n := 127) rfl (by decide) rfl (fun x2 q2 => ?_) -- 57
  refine hM_iandm rfl q1 q2 (by omega) rfl (fun x3 z3 q3 a3 b3 c3 => ?_) -- 59
  refine hI_ri rfl rfl ?_ -- 60
  exact g0 x3 z3 q3 a3 b3 c3
theorem s_fo0_  {lx0 : Int64} (e0 : m_lk lv 0 = some (.long lx0)) 
    (g0 : (lg_cmp lx0 (Int64.ofNat (0 : Fin 2).val)).toInt ≠ 0 → HJ 154 10 lv [] h Q)
    (g1 : ∀ x2 : Int32, x2.toInt = (-1) → (lg_cmp lx0 (Int64.ofNat (0 : Fin 2).val)).toInt = 0 → Q (some (.int x2)) h)
    : HJ 154 0 lv [] h Q := by
  refine hI_ll (k := 0) rfl e0 rfl ?_ -- 0
  refine hI_lc (n := 0) rfl rfl ?_ -- 1
  refine hM_lcmp rfl rfl (fun x1 q1 => ?_) -- 2
  refine hM_zne (off := 7) (t := 10) rfl q1 (by decide) rfl (fun c3 => ?_) (fun c3 => ?_) -- 3
  · exact g0 c3
  · refine hM_ic (n := (-1)) rfl (by decide) rfl (fun x2 q2 => ?_) -- 6
    refine hI_go (pc' := 19) (off := 12) rfl (by decide) ?_ -- 7
    refine hI_ri rfl rfl ?_ -- 19
    exact g1 x2 q2 c3
theorem s_fo10_  {lx0 : Int64} (e0 : m_lk lv 0 = some (.long lx0)) 
    (g0 : HJ 155 0 (lv_args 0 [.long ((lx0 &&& (-lx0)) - (Int64.ofNat (1 : Fin 2).val))]) [] h (fun v h' => HJ 154 19 lv (v.toList ++ []) h' Q))
    : HJ 154 10 lv [] h Q := by
  refine hI_ll (k := 0) rfl e0 rfl ?_ -- 10
  refine hI_ll (k := 0) rfl e0 rfl ?_ -- 11
  refine hI_lneg rfl rfl ?_ -- 12
  refine hI_land rfl rfl ?_ -- 13
  refine hI_lc (n := 1) rfl rfl ?_ -- 14
  refine hI_lsub rfl rfl ?_ -- 15
  refine hM_is0 (as := [.long ((lx0 &&& (-lx0)) - (Int64.ofNat (1 : Fin 2).val))]) (r := []) rfl rfl (by decide +kernel) rfl rfl rfl rfl rfl ?_ -- 16
  exact g0 
theorem s_fo19_ {y : Int}  {sx0 : Int32} (sq0 : sx0.toInt = y) 
    (g0 : Q (some (.int sx0)) h)
    : HJ 154 19 lv [.int sx0] h Q := by
  refine hI_ri rfl rfl ?_ -- 19
  exact g0 
theorem s_bt {y : Int}  {lx0 : Int32} (e0 : m_lk lv 0 = some (.int lx0)) (lq0 : lx0.toInt = y) 
    (g0 : Q (some (.long ((Int64.ofNat (1 : Fin 2).val) <<< ((Int32.ofInt (y)).toInt64 &&& 63)))) h)
    : HJ 52 0 lv [] h Q := by
  refine hI_lc (n := 1) rfl rfl ?_ -- 0
  refine hI_il (k := 0) rfl e0 rfl ?_ -- 1
  refine hM_lshl rfl lq0 rfl ?_ -- 2
  refine hI_rl rfl rfl ?_
  exact g0 
theorem s_fi0 {z : Int} (M : MX 25 W ρ m A h0 h F V G) (e0 : m_lk lv 0 = some (.ref (A 2))) {lx1 : Int32} (e1 : m_lk lv 1 = some (.int lx1)) (lq1 : lx1.toInt = z) 
    (g0 : ∀ x1 : Int32, x1.toInt = 0 → ∀ x3 : Int32, ∀ z3 : Int, x3.toInt = z3 → 41 ≤ z3 → z3 ≤ 41 → z3 = ((h_k h0 (A 2)).2 : Int) → ∀ lv4 : List (Nat × Value), m_lk lv4 0 = some (.ref (A 2)) → m_lk lv4 1 = some (.int lx1) → m_lk lv4 2 = some (.int x1) → m_lk lv4 3 = some (.int x3) → HJ 48 5 lv4 [] h Q)
    : HJ 48 0 lv [] h Q := by
  refine hM_ic (n := 0) rfl (by decide) rfl (fun x1 q1 => ?_) -- 0
  refine hM_si (k := 2) rfl (by decide +kernel) rfl (fun lv2 e2_2 u2 => ?_) -- 1
  have e2_0 := u2 0 _ (by decide) (Or.inl rfl) e0
  have e2_1 := u2 1 _ (by decide) (Or.inl rfl) e1
  refine hI_al (k := 0) rfl e2_0 rfl ?_ -- 2
  refine hM_al M (by decide) (K := 2) (R2 := 28) (L := 41) (H := 41) rfl (by decide) rfl rfl (by decide) rfl rfl (fun x3 z3 q3 a3 b3 c3 => ?_) -- 3
  refine hM_si (k := 3) rfl (by decide +kernel) rfl (fun lv4 e4_3 u4 => ?_) -- 4
  have e4_0 := u4 0 _ (by decide) (Or.inl rfl) e2_0
  have e4_1 := u4 1 _ (by decide) (Or.inl rfl) e2_1
  have e4_2 := u4 2 _ (by decide) (Or.inl rfl) e2_2
  exact g0 x1 q1 x3 z3 q3 a3 b3 c3 lv4 e4_0 e4_1 e4_2 e4_3
theorem s_fi5 {z i n : Int} (M : MX 25 W ρ m A h0 h F V G) (e0 : m_lk lv 0 = some (.ref (A 2))) {lx1 : Int32} (e1 : m_lk lv 1 = some (.int lx1)) (lq1 : lx1.toInt = z) {lx2 : Int32} (e2 : m_lk lv 2 = some (.int lx2)) (lq2 : lx2.toInt = i) {lx3 : Int32} (e3 : m_lk lv 3 = some (.int lx3)) (lq3 : lx3.toInt = n) (i0 : 0 ≤ i) (n1 : n ≤ 41) (z0 : -2147483648 ≤ z) (z1 : z ≤ 2147483647)(hw : d_sub [(28, 1001)] W = true)
    (g0 : i ≥ n → Q none h)
    (g1 : ∀ h1 : MH, ∀ V1 : Nat → Nat → Int, V1 = m_u V 2 (m_u (V 2) (i).toNat (z)) → ∀ x2 : Int32, x2.toInt = i + 1 → ∀ lv2 : List (Nat × Value), MX 25 W ρ m A h0 h1 F V1 G → m_lk lv2 0 = some (.ref (A 2)) → m_lk lv2 1 = some (.int lx1) → m_lk lv2 2 = some (.int x2) → m_lk lv2 3 = some (.int lx3) → i < n → HJ 48 5 lv2 [] h1 Q)
    : HJ 48 5 lv [] h Q := by
  refine hI_il (k := 2) rfl e2 rfl ?_ -- 5
  refine hI_il (k := 3) rfl e3 rfl ?_ -- 6
  refine hM_cge (off := 13) (t := 20) rfl lq2 lq3 (by decide) rfl (fun c7 => ?_) (fun c7 => ?_) -- 7
  · refine hI_rv rfl rfl ?_
    exact g0 c7
  · refine hI_al (k := 0) rfl e0 rfl ?_ -- 10
    refine hI_il (k := 2) rfl e2 rfl ?_ -- 11
    refine hI_il (k := 1) rfl e1 rfl ?_ -- 12
    refine hM_is M (by decide) ok_25 (K := 2) (R2 := 28) (L := 41) (H := 41) (lo := (-2147483648)) (hi := 2147483647) rfl (by decide) rfl rfl rfl (fun _ => rfl) (d_subm hw (by decide +kernel)) rfl lq2 lq1 (by omega) (by omega) (by omega) (by omega) rfl (fun h1 V1 f1 M1 => ?_) -- 13
    refine hM_inc (k := 2) (z := 1) rfl e2 lq2 (by decide) (by omega) (by omega) (by decide +kernel) rfl (fun lv2 x2 q2 e2_2 u2 => ?_) -- 14
    have e2_0 := u2 0 _ (by decide) (Or.inl rfl) e0
    have e2_1 := u2 1 _ (by decide) (Or.inl rfl) e1
    have e2_3 := u2 3 _ (by decide) (Or.inl rfl) e3
    refine hI_go (pc' := 5) (off := (-12)) rfl (by decide) ?_ -- 17
    exact g1 h1 V1 f1 x2 q2 lv2 M1 e2_0 e2_1 e2_2 e2_3 c7
theorem s_ho_0 {x T : Int} (M : MX 39 W ρ m A h0 h F V G) (e0 : m_lk lv 0 = some (.ref m)) {lx1 : Int32} (e1 : m_lk lv 1 = some (.int lx1)) (lq1 : lx1.toInt = x) (t0 : F 5 ≤ T)(hl1 : ((h_k h0 (A 1)).2 : Int) = T)
    (g0 : x < 0 → Q (some (.long (Int64.ofNat (0 : Fin 2).val))) h)
    (g1 : x ≥ 0 → 0 ≤ F 5 → F 5 ≤ 15120 → x ≥ F 5 → Q (some (.long (Int64.ofNat (0 : Fin 2).val))) h)
    (g2 : x ≥ 0 → 0 ≤ F 5 → F 5 ≤ 15120 → x < F 5 → Q (some (.long (G 1 (x).toNat))) h)
    : HJ 99 0 lv [] h Q := by
  refine hI_il (k := 1) rfl e1 rfl ?_ -- 0
  refine hM_zlt (off := 20) (t := 21) rfl lq1 (by decide) rfl (fun c1 => ?_) (fun c1 => ?_) -- 1
  · refine hI_lc (n := 0) rfl rfl ?_ -- 21
    refine hI_rl rfl rfl ?_
    exact g0 c1
  · refine hI_il (k := 1) rfl e1 rfl ?_ -- 4
    refine hI_al (k := 0) rfl e0 rfl ?_ -- 5
    refine hM_gi M (by decide) rfl rfl rfl (k := 5) (c := 2) (lo := 0) (hi := 15120) rfl rfl rfl rfl rfl (fun x1 q1 a1 b1 => ?_) -- 6
    refine hM_cge (off := 12) (t := 21) rfl lq1 q1 (by decide) rfl (fun c9 => ?_) (fun c9 => ?_) -- 9
    · refine hI_lc (n := 0) rfl rfl ?_ -- 21
      refine hI_rl rfl rfl ?_
      exact g1 c1 a1 b1 c9
    · refine hI_al (k := 0) rfl e0 rfl ?_ -- 12
      refine hM_ga M (by decide) rfl rfl (k := 1) (c := 2) rfl rfl rfl (by decide +kernel) rfl ?_ -- 13
      refine hI_il (k := 1) rfl e1 rfl ?_ -- 16
      refine hM_lav M (by decide) (K := 1) (R2 := 41) (L := 64) (H := 32000) rfl (by decide) rfl rfl hl1 rfl lq1 (by omega) (by omega) rfl ?_ -- 17
      refine hI_go (pc' := 22) (off := 4) rfl (by decide) ?_ -- 18
      refine hI_rl rfl rfl ?_
      exact g2 c1 a1 b1 c9
theorem s_hv0 (M : MX 25 W ρ m A h0 h F V G) (e0 : m_lk lv 0 = some (.ref m)) {nd : Nat} (e1 : m_lk lv 1 = some (.ref nd)) (hnd : ρ nd = 39) {lx2 : Int64} (e2 : m_lk lv 2 = some (.long lx2)) 
    (g0 : ∀ x1 : Int32, x1.toInt = 0 → HJ 48 0 (lv_args 0 [.ref (A 2), .int x1]) [] h (fun v h' => HJ 153 8 lv (v.toList ++ []) h' Q))
    : HJ 153 0 lv [] h Q := by
  refine hI_al (k := 0) rfl e0 rfl ?_ -- 0
  refine hM_ga M (by decide) rfl rfl (k := 2) (c := 5) rfl rfl rfl (by decide +kernel) rfl ?_ -- 1
  refine hM_ic (n := 0) rfl (by decide) rfl (fun x1 q1 => ?_) -- 4
  refine hM_is0 (as := [.ref (A 2), .int x1]) (r := []) rfl rfl (by decide +kernel) rfl rfl rfl rfl rfl ?_ -- 5
  exact g0 x1 q1
theorem s_hv8 (M : MX 25 W ρ m A h0 h F V G) (e0 : m_lk lv 0 = some (.ref m)) {nd : Nat} (e1 : m_lk lv 1 = some (.ref nd)) (hnd : ρ nd = 39) {lx2 : Int64} (e2 : m_lk lv 2 = some (.long lx2)) 
    (g0 : ∀ x1 : Int32, x1.toInt = 0 → ∀ lv2 : List (Nat × Value), m_lk lv2 0 = some (.ref m) → m_lk lv2 1 = some (.ref nd) → m_lk lv2 2 = some (.long lx2) → m_lk lv2 4 = some (.int x1) → HJ 153 11 lv2 [] h Q)
    : HJ 153 8 lv [] h Q := by
  refine hM_ic (n := 0) rfl (by decide) rfl (fun x1 q1 => ?_) -- 8
  refine hM_si2 (k := 4) rfl (by decide +kernel) rfl (fun lv2 e2_4 u2 => ?_) -- 9
  have e2_0 := u2 0 _ (by decide) (Or.inl rfl) e0
  have e2_1 := u2 1 _ (by decide) (Or.inl rfl) e1
  have e2_2 := u2 2 _ (by decide) (Or.inr (by decide)) e2
  exact g0 x1 q1 lv2 e2_0 e2_1 e2_2 e2_4
theorem s_hv11 {i : Int} (M : MX 25 W ρ m A h0 h F V G) (e0 : m_lk lv 0 = some (.ref m)) {nd : Nat} (e1 : m_lk lv 1 = some (.ref nd)) (hnd : ρ nd = 39) {lx2 : Int64} (e2 : m_lk lv 2 = some (.long lx2)) {lx4 : Int32} (e4 : m_lk lv 4 = some (.int lx4)) (lq4 : lx4.toInt = i) 
    (g0 : ∀ z1 : Int, 0 ≤ z1 → z1 ≤ 15120 → i ≥ z1 → HJ 153 70 lv [] h Q)
    (g1 : ∀ z1 : Int, 0 ≤ z1 → z1 ≤ 15120 → i < z1 → HJ 99 0 (lv_args 0 [.ref nd, .int lx4]) [] h (fun v h' => HJ 153 26 lv (v.toList ++ []) h' Q))
    : HJ 153 11 lv [] h Q := by
  refine hI_il2 (k := 4) rfl e4 rfl ?_ -- 11
  refine hI_al (k := 1) rfl e1 rfl ?_ -- 13
  refine hM_gn (W := W) M.1.1 hnd (by decide) rfl rfl rfl (k := 5) (c := 2) (lo := 0) (hi := 15120) rfl rfl rfl rfl rfl (fun x1 z1 q1 a1 b1 => ?_) -- 14
  refine hM_cge (off := 53) (t := 70) rfl lq4 q1 (by decide) rfl (fun c17 => ?_) (fun c17 => ?_) -- 17
  · exact g0 z1 a1 b1 c17
  · refine hI_al (k := 1) rfl e1 rfl ?_ -- 20
    refine hI_il2 (k := 4) rfl e4 rfl ?_ -- 21
    refine hM_iv (MX.start (W := W) M.1.1 hnd) (by decide) rfl rfl (by decide) (as := [.int lx4]) (r := []) rfl rfl (by decide +kernel) rfl (by decide +kernel) rfl rfl rfl rfl rfl ?_ -- 23
    exact g1 z1 a1 b1 c17
theorem s_hv26 {i : Int} (M : MX 25 W ρ m A h0 h F V G) (e0 : m_lk lv 0 = some (.ref m)) {nd : Nat} (e1 : m_lk lv 1 = some (.ref nd)) (hnd : ρ nd = 39) {lx2 : Int64} (e2 : m_lk lv 2 = some (.long lx2)) {lx4 : Int32} (e4 : m_lk lv 4 = some (.int lx4)) (lq4 : lx4.toInt = i) {sx0 : Int64} 
    (g0 : ∀ lv1 : List (Nat × Value), m_lk lv1 0 = some (.ref m) → m_lk lv1 1 = some (.ref nd) → m_lk lv1 2 = some (.long lx2) → m_lk lv1 4 = some (.int lx4) → m_lk lv1 5 = some (.long (sx0 &&& lx2)) → HJ 154 0 (lv_args 0 [.long (sx0 &&& lx2)]) [] h (fun v h' => HJ 153 35 lv1 (v.toList ++ []) h' Q))
    : HJ 153 26 lv [.long sx0] h Q := by
  refine hI_ll (k := 2) rfl e2 rfl ?_ -- 26
  refine hI_land rfl rfl ?_ -- 27
  refine hM_sl2 (k := 5) rfl (by decide +kernel) rfl (fun lv1 e1_5 u1 => ?_) -- 28
  have e1_0 := u1 0 _ (by decide) (by decide) (Or.inl rfl) e0
  have e1_1 := u1 1 _ (by decide) (by decide) (Or.inl rfl) e1
  have e1_2 := u1 2 _ (by decide) (by decide) (Or.inr (by decide)) e2
  have e1_4 := u1 4 _ (by decide) (by decide) (Or.inl rfl) e4
  refine hI_ll2 (k := 5) rfl e1_5 rfl ?_ -- 30
  refine hM_is0 (as := [.long (sx0 &&& lx2)]) (r := []) rfl rfl (by decide +kernel) rfl rfl rfl rfl rfl ?_ -- 32
  exact g0 lv1 e1_0 e1_1 e1_2 e1_4 e1_5
theorem s_hv35 {i x : Int} (M : MX 25 W ρ m A h0 h F V G) (e0 : m_lk lv 0 = some (.ref m)) {nd : Nat} (e1 : m_lk lv 1 = some (.ref nd)) (hnd : ρ nd = 39) {lx2 : Int64} (e2 : m_lk lv 2 = some (.long lx2)) {lx4 : Int32} (e4 : m_lk lv 4 = some (.int lx4)) (lq4 : lx4.toInt = i) {lx5 : Int64} (e5 : m_lk lv 5 = some (.long lx5)) {sx0 : Int32} (sq0 : sx0.toInt = x) 
    (g0 : ∀ lv1 : List (Nat × Value), m_lk lv1 0 = some (.ref m) → m_lk lv1 1 = some (.ref nd) → m_lk lv1 2 = some (.long lx2) → m_lk lv1 4 = some (.int lx4) → m_lk lv1 5 = some (.long lx5) → m_lk lv1 7 = some (.int sx0) → HJ 155 0 (lv_args 0 [.long lx5]) [] h (fun v h' => HJ 153 42 lv1 (v.toList ++ []) h' Q))
    : HJ 153 35 lv [.int sx0] h Q := by
  refine hM_si2 (k := 7) rfl (by decide +kernel) rfl (fun lv1 e1_7 u1 => ?_) -- 35
  have e1_0 := u1 0 _ (by decide) (Or.inl rfl) e0
  have e1_1 := u1 1 _ (by decide) (Or.inl rfl) e1
  have e1_2 := u1 2 _ (by decide) (Or.inr (by decide)) e2
  have e1_4 := u1 4 _ (by decide) (Or.inl rfl) e4
  have e1_5 := u1 5 _ (by decide) (Or.inr (by decide)) e5
  refine hI_ll2 (k := 5) rfl e1_5 rfl ?_ -- 37
  refine hM_is0 (as := [.long lx5]) (r := []) rfl rfl (by decide +kernel) rfl rfl rfl rfl rfl ?_ -- 39
  exact g0 lv1 e1_0 e1_1 e1_2 e1_4 e1_5 e1_7
theorem s_hv42 {i x z : Int} (M : MX 25 W ρ m A h0 h F V G) (e0 : m_lk lv 0 = some (.ref m)) {nd : Nat} (e1 : m_lk lv 1 = some (.ref nd)) (hnd : ρ nd = 39) {lx2 : Int64} (e2 : m_lk lv 2 = some (.long lx2)) {lx4 : Int32} (e4 : m_lk lv 4 = some (.int lx4)) (lq4 : lx4.toInt = i) {lx7 : Int32} (e7 : m_lk lv 7 = some (.int lx7)) (lq7 : lx7.toInt = x) {sx0 : Int32} (sq0 : sx0.toInt = z) (zx : z = 1 → 0 ≤ x) (i0 : 0 ≤ i) (i1 : i ≤ 15120)(hw : d_sub [(28, 1001)] W = true)
    (g0 : ∀ x2 : Int32, x2.toInt = i + 1 → ∀ lv2 : List (Nat × Value), m_lk lv2 0 = some (.ref m) → m_lk lv2 1 = some (.ref nd) → m_lk lv2 2 = some (.long lx2) → m_lk lv2 4 = some (.int x2) → z ≠ 1 → HJ 153 11 lv2 [] h Q)
    (g1 : ∀ x4 : Int32, x4.toInt = i + 1 → ∀ lv4 : List (Nat × Value), m_lk lv4 0 = some (.ref m) → m_lk lv4 1 = some (.ref nd) → m_lk lv4 2 = some (.long lx2) → m_lk lv4 4 = some (.int x4) → z = 1 → x ≥ 41 → HJ 153 11 lv4 [] h Q)
    (g2 : ∀ z7 : Int, -2147483648 ≤ z7 → z7 ≤ 2147483647 → ∀ h8 : MH, ∀ V8 : Nat → Nat → Int, V8 = m_u V 2 (m_u (V 2) (x).toNat (z7)) → ∀ x9 : Int32, x9.toInt = i + 1 → ∀ lv9 : List (Nat × Value), MX 25 W ρ m A h0 h8 F V8 G → m_lk lv9 0 = some (.ref m) → m_lk lv9 1 = some (.ref nd) → m_lk lv9 2 = some (.long lx2) → m_lk lv9 4 = some (.int x9) → z = 1 → x < 41 → HJ 153 11 lv9 [] h8 Q)
    : HJ 153 42 lv [.int sx0] h Q := by
  refine hM_ic (n := 1) rfl (by decide) rfl (fun x1 q1 => ?_) -- 42
  refine hM_cne (off := 21) (t := 64) rfl sq0 q1 (by decide) rfl (fun c43 => ?_) (fun c43 => ?_) -- 43
  · refine hM_inc (k := 4) (z := 1) rfl e4 lq4 (by decide) (by omega) (by omega) (by decide +kernel) rfl (fun lv2 x2 q2 e2_4 u2 => ?_) -- 64
    have e2_0 := u2 0 _ (by decide) (Or.inl rfl) e0
    have e2_1 := u2 1 _ (by decide) (Or.inl rfl) e1
    have e2_2 := u2 2 _ (by decide) (Or.inr (by decide)) e2
    have e2_7 := u2 7 _ (by decide) (Or.inl rfl) e7
    refine hI_go (pc' := 11) (off := (-56)) rfl (by decide) ?_ -- 67
    exact g0 x2 q2 lv2 e2_0 e2_1 e2_2 e2_4 c43
  · refine hI_il2 (k := 7) rfl e7 rfl ?_ -- 46
    refine hM_bp (n := 41) rfl (by decide) rfl (fun x3 q3 => ?_) -- 48
    refine hM_cge (off := 14) (t := 64) rfl lq7 q3 (by decide) rfl (fun c50 => ?_) (fun c50 => ?_) -- 50
    · refine hM_inc (k := 4) (z := 1) rfl e4 lq4 (by decide) (by omega) (by omega) (by decide +kernel) rfl (fun lv4 x4 q4 e4_4 u4 => ?_) -- 64
      have e4_0 := u4 0 _ (by decide) (Or.inl rfl) e0
      have e4_1 := u4 1 _ (by decide) (Or.inl rfl) e1
      have e4_2 := u4 2 _ (by decide) (Or.inr (by decide)) e2
      have e4_7 := u4 7 _ (by decide) (Or.inl rfl) e7
      refine hI_go (pc' := 11) (off := (-56)) rfl (by decide) ?_ -- 67
      exact g1 x4 q4 lv4 e4_0 e4_1 e4_2 e4_4 c43 c50
    · refine hI_al (k := 0) rfl e0 rfl ?_ -- 53
      refine hM_ga M (by decide) rfl rfl (k := 2) (c := 5) rfl rfl rfl (by decide +kernel) rfl ?_ -- 54
      refine hI_il2 (k := 7) rfl e7 rfl ?_ -- 57
      refine hI_dup2 rfl rfl rfl rfl ?_ -- 59
      refine hM_ia M (by decide) (K := 2) (R2 := 28) (L := 41) (H := 41) (lo := (-2147483648)) (hi := 2147483647) rfl (by decide) rfl rfl (fun _ => rfl) rfl lq7 (by omega) (by omega) rfl (fun x5 q5 a5 b5 => ?_) -- 60
      refine hM_ic (n := 1) rfl (by decide) rfl (fun x6 q6 => ?_) -- 61
      refine hM_addw rfl rfl (fun x7 z7 q7 a7 b7 => ?_) -- 62
      refine hM_is M (by decide) ok_25 (K := 2) (R2 := 28) (L := 41) (H := 41) (lo := (-2147483648)) (hi := 2147483647) rfl (by decide) rfl rfl rfl (fun _ => rfl) (d_subm hw (by decide +kernel)) rfl lq7 q7 (by omega) (by omega) (by omega) (by omega) rfl (fun h8 V8 f8 M8 => ?_) -- 63
      refine hM_inc (k := 4) (z := 1) rfl e4 lq4 (by decide) (by omega) (by omega) (by decide +kernel) rfl (fun lv9 x9 q9 e9_4 u9 => ?_) -- 64
      have e9_0 := u9 0 _ (by decide) (Or.inl rfl) e0
      have e9_1 := u9 1 _ (by decide) (Or.inl rfl) e1
      have e9_2 := u9 2 _ (by decide) (Or.inr (by decide)) e2
      have e9_7 := u9 7 _ (by decide) (Or.inl rfl) e7
      refine hI_go (pc' := 11) (off := (-56)) rfl (by decide) ?_ -- 67
      exact g2 z7 a7 b7 h8 V8 f8 x9 q9 lv9 M8 e9_0 e9_1 e9_2 e9_4 c43 c50
theorem s_hv70 (M : MX 25 W ρ m A h0 h F V G) (e0 : m_lk lv 0 = some (.ref m)) {lx2 : Int64} (e2 : m_lk lv 2 = some (.long lx2)) 
    (g0 : ∀ x1 : Int32, x1.toInt = (-1) → ∀ x3 : Int32, x3.toInt = 0 → ∀ lv4 : List (Nat × Value), m_lk lv4 0 = some (.ref m) → m_lk lv4 2 = some (.long lx2) → m_lk lv4 4 = some (.int x1) → m_lk lv4 5 = some (.int x3) → HJ 153 76 lv4 [] h Q)
    : HJ 153 70 lv [] h Q := by
  refine hM_ic (n := (-1)) rfl (by decide) rfl (fun x1 q1 => ?_) -- 70
  refine hM_si2 (k := 4) rfl (by decide +kernel) rfl (fun lv2 e2_4 u2 => ?_) -- 71
  have e2_0 := u2 0 _ (by decide) (Or.inl rfl) e0
  have e2_2 := u2 2 _ (by decide) (Or.inr (by decide)) e2
  refine hM_ic (n := 0) rfl (by decide) rfl (fun x3 q3 => ?_) -- 73
  refine hM_si2 (k := 5) rfl (by decide +kernel) rfl (fun lv4 e4_5 u4 => ?_) -- 74
  have e4_0 := u4 0 _ (by decide) (Or.inl rfl) e2_0
  have e4_2 := u4 2 _ (by decide) (Or.inr (by decide)) e2_2
  have e4_4 := u4 4 _ (by decide) (Or.inl rfl) e2_4
  exact g0 x1 q1 x3 q3 lv4 e4_0 e4_2 e4_4 e4_5
theorem s_hv76 {b v : Int} (M : MX 25 W ρ m A h0 h F V G) (e0 : m_lk lv 0 = some (.ref m)) {lx2 : Int64} (e2 : m_lk lv 2 = some (.long lx2)) {lx4 : Int32} (e4 : m_lk lv 4 = some (.int lx4)) (lq4 : lx4.toInt = b) {lx5 : Int32} (e5 : m_lk lv 5 = some (.int lx5)) (lq5 : lx5.toInt = v) 
    (g0 : v ≥ 41 → Q (some (.int lx4)) h)
    (g1 : v < 41 → HJ 52 0 (lv_args 0 [.int lx5]) [] h (fun v h' => HJ 153 89 lv (v.toList ++ [.long lx2]) h' Q))
    : HJ 153 76 lv [] h Q := by
  refine hI_il2 (k := 5) rfl e5 rfl ?_ -- 76
  refine hM_bp (n := 41) rfl (by decide) rfl (fun x1 q1 => ?_) -- 78
  refine hM_cge (off := 48) (t := 128) rfl lq5 q1 (by decide) rfl (fun c80 => ?_) (fun c80 => ?_) -- 80
  · refine hI_il2 (k := 4) rfl e4 rfl ?_ -- 128
    refine hI_ri rfl rfl ?_ -- 130
    exact g0 c80
  · refine hI_ll (k := 2) rfl e2 rfl ?_ -- 83
    refine hI_il2 (k := 5) rfl e5 rfl ?_ -- 84
    refine hM_is0 (as := [.int lx5]) (r := [.long lx2]) rfl rfl (by decide +kernel) rfl rfl rfl rfl rfl ?_ -- 86
    exact g1 c80
theorem s_hv89 {b v : Int} (M : MX 25 W ρ m A h0 h F V G) (e0 : m_lk lv 0 = some (.ref m)) {lx2 : Int64} (e2 : m_lk lv 2 = some (.long lx2)) {lx4 : Int32} (e4 : m_lk lv 4 = some (.int lx4)) (lq4 : lx4.toInt = b) {lx5 : Int32} (e5 : m_lk lv 5 = some (.int lx5)) (lq5 : lx5.toInt = v) {sx0 : Int64} {sx1 : Int64} (b0 : -1 ≤ b) (b1 : b ≤ 40) (v0 : 0 ≤ v) (v1 : v ≤ 40)
    (g0 : ∀ x2 : Int32, x2.toInt = v + 1 → ∀ lv2 : List (Nat × Value), m_lk lv2 0 = some (.ref m) → m_lk lv2 2 = some (.long lx2) → m_lk lv2 4 = some (.int lx4) → m_lk lv2 5 = some (.int x2) → (lg_cmp (sx0 &&& sx1) (Int64.ofNat (0 : Fin 2).val)).toInt = 0 → HJ 153 76 lv2 [] h Q)
    (g1 : ∀ x5 : Int32, x5.toInt = v + 1 → ∀ lv5 : List (Nat × Value), m_lk lv5 0 = some (.ref m) → m_lk lv5 2 = some (.long lx2) → m_lk lv5 4 = some (.int lx5) → m_lk lv5 5 = some (.int x5) → (lg_cmp (sx0 &&& sx1) (Int64.ofNat (0 : Fin 2).val)).toInt ≠ 0 → b = (-1) → HJ 153 76 lv5 [] h Q)
    (g2 : ∀ x8 : Int32, x8.toInt = v + 1 → ∀ lv8 : List (Nat × Value), m_lk lv8 0 = some (.ref m) → m_lk lv8 2 = some (.long lx2) → m_lk lv8 4 = some (.int lx4) → m_lk lv8 5 = some (.int x8) → (lg_cmp (sx0 &&& sx1) (Int64.ofNat (0 : Fin 2).val)).toInt ≠ 0 → b ≠ (-1) → V 2 (v).toNat ≤ V 2 (b).toNat → HJ 153 76 lv8 [] h Q)
    (g3 : ∀ x10 : Int32, x10.toInt = v + 1 → ∀ lv10 : List (Nat × Value), m_lk lv10 0 = some (.ref m) → m_lk lv10 2 = some (.long lx2) → m_lk lv10 4 = some (.int lx5) → m_lk lv10 5 = some (.int x10) → (lg_cmp (sx0 &&& sx1) (Int64.ofNat (0 : Fin 2).val)).toInt ≠ 0 → b ≠ (-1) → V 2 (v).toNat > V 2 (b).toNat → HJ 153 76 lv10 [] h Q)
    : HJ 153 89 lv [.long sx1, .long sx0] h Q := by
  refine hI_land rfl rfl ?_ -- 89
  refine hI_lc (n := 0) rfl rfl ?_ -- 90
  refine hM_lcmp rfl rfl (fun x1 q1 => ?_) -- 91
  refine hM_zeq (off := 30) (t := 122) rfl q1 (by decide) rfl (fun c92 => ?_) (fun c92 => ?_) -- 92
  · refine hM_inc (k := 5) (z := 1) rfl e5 lq5 (by decide) (by omega) (by omega) (by decide +kernel) rfl (fun lv2 x2 q2 e2_5 u2 => ?_) -- 122
    have e2_0 := u2 0 _ (by decide) (Or.inl rfl) e0
    have e2_2 := u2 2 _ (by decide) (Or.inr (by decide)) e2
    have e2_4 := u2 4 _ (by decide) (Or.inl rfl) e4
    refine hI_go (pc' := 76) (off := (-49)) rfl (by decide) ?_ -- 125
    exact g0 x2 q2 lv2 e2_0 e2_2 e2_4 e2_5 c92
  · refine hI_il2 (k := 4) rfl e4 rfl ?_ -- 95
    refine hM_ic (n := (-1)) rfl (by decide) rfl (fun x3 q3 => ?_) -- 97
    refine hM_ceq (off := 20) (t := 118) rfl lq4 q3 (by decide) rfl (fun c98 => ?_) (fun c98 => ?_) -- 98
    · refine hI_il2 (k := 5) rfl e5 rfl ?_ -- 118
      refine hM_si2 (k := 4) rfl (by decide +kernel) rfl (fun lv4 e4_4 u4 => ?_) -- 120
      have e4_0 := u4 0 _ (by decide) (Or.inl rfl) e0
      have e4_2 := u4 2 _ (by decide) (Or.inr (by decide)) e2
      have e4_5 := u4 5 _ (by decide) (Or.inl rfl) e5
      refine hM_inc (k := 5) (z := 1) rfl e4_5 lq5 (by decide) (by omega) (by omega) (by decide +kernel) rfl (fun lv5 x5 q5 e5_5 u5 => ?_) -- 122
      have e5_0 := u5 0 _ (by decide) (Or.inl rfl) e4_0
      have e5_2 := u5 2 _ (by decide) (Or.inr (by decide)) e4_2
      have e5_4 := u5 4 _ (by decide) (Or.inl rfl) e4_4
      refine hI_go (pc' := 76) (off := (-49)) rfl (by decide) ?_ -- 125
      exact g1 x5 q5 lv5 e5_0 e5_2 e5_4 e5_5 c92 c98
    · refine hI_al (k := 0) rfl e0 rfl ?_ -- 101
      refine hM_ga M (by decide) rfl rfl (k := 2) (c := 5) rfl rfl rfl (by decide +kernel) rfl ?_ -- 102
      refine hI_il2 (k := 5) rfl e5 rfl ?_ -- 105
      refine hM_ia M (by decide) (K := 2) (R2 := 28) (L := 41) (H := 41) (lo := (-2147483648)) (hi := 2147483647) rfl (by decide) rfl rfl (fun _ => rfl) rfl lq5 (by omega) (by omega) rfl (fun x6 q6 a6 b6 => ?_) -- 107
      refine hI_al (k := 0) rfl e0 rfl ?_ -- 108
      refine hM_ga M (by decide) rfl rfl (k := 2) (c := 5) rfl rfl rfl (by decide +kernel) rfl ?_ -- 109
      refine hI_il2 (k := 4) rfl e4 rfl ?_ -- 112
      refine hM_ia M (by decide) (K := 2) (R2 := 28) (L := 41) (H := 41) (lo := (-2147483648)) (hi := 2147483647) rfl (by decide) rfl rfl (fun _ => rfl) rfl lq4 (by omega) (by omega) rfl (fun x7 q7 a7 b7 => ?_) -- 114
      refine hM_cle (off := 7) (t := 122) rfl q6 q7 (by decide) rfl (fun c115 => ?_) (fun c115 => ?_) -- 115
      · refine hM_inc (k := 5) (z := 1) rfl e5 lq5 (by decide) (by omega) (by omega) (by decide +kernel) rfl (fun lv8 x8 q8 e8_5 u8 => ?_) -- 122
        have e8_0 := u8 0 _ (by decide) (Or.inl rfl) e0
        have e8_2 := u8 2 _ (by decide) (Or.inr (by decide)) e2
        have e8_4 := u8 4 _ (by decide) (Or.inl rfl) e4
        refine hI_go (pc' := 76) (off := (-49)) rfl (by decide) ?_ -- 125
        exact g2 x8 q8 lv8 e8_0 e8_2 e8_4 e8_5 c92 c98 c115
      · refine hI_il2 (k := 5) rfl e5 rfl ?_ -- 118
        refine hM_si2 (k := 4) rfl (by decide +kernel) rfl (fun lv9 e9_4 u9 => ?_) -- 120
        have e9_0 := u9 0 _ (by decide) (Or.inl rfl) e0
        have e9_2 := u9 2 _ (by decide) (Or.inr (by decide)) e2
        have e9_5 := u9 5 _ (by decide) (Or.inl rfl) e5
        refine hM_inc (k := 5) (z := 1) rfl e9_5 lq5 (by decide) (by omega) (by omega) (by decide +kernel) rfl (fun lv10 x10 q10 e10_5 u10 => ?_) -- 122
        have e10_0 := u10 0 _ (by decide) (Or.inl rfl) e9_0
        have e10_2 := u10 2 _ (by decide) (Or.inr (by decide)) e9_2
        have e10_4 := u10 4 _ (by decide) (Or.inl rfl) e9_4
        refine hI_go (pc' := 76) (off := (-49)) rfl (by decide) ?_ -- 125
        exact g3 x10 q10 lv10 e10_0 e10_2 e10_4 e10_5 c92 c98 c115
theorem lg_eq {x y : Int64} (e : (lg_cmp x y).toInt = 0) : x = y := by
  unfold lg_cmp at e
  split at e
  · exact absurd e (by decide)
  · split at e
    · next q => exact q
    · exact absurd e (by decide)
theorem c_bc {y : Int64} (g : ∀ x : Int32, 0 ≤ x.toInt → x.toInt ≤ 127 → (y = 0 → x.toInt = 0) → Q (some (.int x)) h) : HJ 155 0 (lv_args 0 [.long y]) [] h Q :=
  s_bc0 (lx0 := y) rfl (fun _ a1 => s_bc10 a1 (fun _ a2 => s_bc24 a2 (fun _ a3 => s_bc34 a3 (fun _ a4 => s_bc41 a4 (fun _ a5 => s_bc48 a5 (fun _ a6 => s_bc55 a6 (fun x z q b0 b1 c => g x (by omega) (by omega) (fun e => by
    rw [q]
    exact c (by subst e; decide +kernel)))))))))
theorem c_first {y : Int64} (g : ∀ x : Int32, -1 ≤ x.toInt → x.toInt ≤ 127 → (y ≠ 0 → 0 ≤ x.toInt) → Q (some (.int x)) h) : HJ 154 0 (lv_args 0 [.long y]) [] h Q :=
  s_fo0_ (lx0 := y) rfl (fun c3 => s_fo10_ (lx0 := y) rfl (c_bc (fun x b0 b1 _ => s_fo19_ (y := x.toInt) rfl (g x (by omega) b1 (fun _ => b0))))) (fun x q c => g x (by omega) (by omega) (fun e => absurd (lg_eq c) e))
theorem c_bit {x : Int32} (g : ∀ y : Int64, Q (some (.long y)) h) : HJ 52 0 (lv_args 0 [.int x]) [] h Q := s_bt (y := x.toInt) rfl rfl (g _)
theorem l_fi {xz : Int32} (hw : d_sub [(28, 1001)] W = true) (g : ∀ (h : MH) (V : Nat → Nat → Int), MX 25 W ρ m A h0 h F V G → Q none h) : ∀ (d i : Nat) (lv : List (Nat × Value)) (h : MH) (V : Nat → Nat → Int) (xi xn : Int32), i + d = 41 → MX 25 W ρ m A h0 h F V G → xi.toInt = (i : Int) → xn.toInt = 41 → m_lk lv 0 = some (.ref (A 2)) → m_lk lv 1 = some (.int xz) → m_lk lv 2 = some (.int xi) → m_lk lv 3 = some (.int xn) → HJ 48 5 lv [] h Q := by
  intro d
  have zT : -2147483648 ≤ xz.toInt ∧ xz.toInt ≤ 2147483647 := g_iT xz
  induction d with
  | zero =>
    intro i lv h V xi xn hd M qi qn e0 e1 e2 e3
    exact s_fi5 M e0 e1 rfl e2 qi e3 qn (by omega) (by omega) zT.1 zT.2 hw (fun _ => g h V M) (fun h1 V1 f1 x2 q2 lv2 M1 _ _ _ _ c => by omega)
  | succ d ih =>
    intro i lv h V xi xn hd M qi qn e0 e1 e2 e3
    exact s_fi5 M e0 e1 rfl e2 qi e3 qn (by omega) (by omega) zT.1 zT.2 hw (fun _ => g h V M) (fun h1 V1 f1 x2 q2 lv2 M1 d0 d1 d2 d3 _ => ih (i + 1) lv2 h1 V1 x2 xn (by omega) M1 (by omega) qn d0 d1 d2 d3)
theorem c_fill {xz : Int32} (M : MX 25 W ρ m A h0 h F V G) (hw : d_sub [(28, 1001)] W = true) (g : ∀ (h' : MH) (V' : Nat → Nat → Int), MX 25 W ρ m A h0 h' F V' G → Q none h') : HJ 48 0 (lv_args 0 [.ref (A 2), .int xz]) [] h Q :=
  s_fi0 M rfl rfl rfl (fun x1 q1 x3 z3 q3 a3 b3 _ lv4 d0 d1 d2 d3 => l_fi hw g 41 0 lv4 h V x1 x3 rfl M q1 (by omega) d0 d1 d2 d3)
theorem c_hold99 {nd : Nat} {x : Int32} (ht : TH c_sp ρ h) (hnd : ρ nd = 39) (t1 : t_nd ρ h) (g : ∀ y : Int64, Q (some (.long y)) h) : HJ 99 0 (lv_args 0 [.ref nd, .int x]) [] h Q :=
  s_ho_0 (x := x.toInt) (T := ((h_k h (h_r h nd 1)).2 : Int)) (MX.start (W := []) ht hnd) rfl rfl rfl (t1 nd (Or.inl hnd)).2 rfl (fun _ => g _) (fun _ _ _ _ => g _) (fun _ _ _ _ => g _)
theorem l_hv11 {nd : Nat} {p : Int64} (hnd : ρ nd = 39) (t1 : ∀ (h : MH) (V : Nat → Nat → Int), MX 25 W ρ m A h0 h F V G → t_nd ρ h) (hw : d_sub [(28, 1001)] W = true) (g : ∀ (lv : List (Nat × Value)) (h : MH) (V : Nat → Nat → Int), MX 25 W ρ m A h0 h F V G → m_lk lv 0 = some (.ref m) → m_lk lv 2 = some (.long p) → HJ 153 70 lv [] h Q) : ∀ (d i : Nat) (lv : List (Nat × Value)) (h : MH) (V : Nat → Nat → Int) (xi : Int32), i + d = 15120 → MX 25 W ρ m A h0 h F V G → xi.toInt = (i : Int) → m_lk lv 0 = some (.ref m) → m_lk lv 1 = some (.ref nd) → m_lk lv 2 = some (.long p) → m_lk lv 4 = some (.int xi) → HJ 153 11 lv [] h Q := by
  intro d
  induction d with
  | zero =>
    intro i lv h V xi hd M qi e0 e1 e2 e4
    exact s_hv11 M e0 e1 hnd e2 e4 qi (fun _ _ _ _ => g lv h V M e0 e2) (fun z a b c => by omega)
  | succ d ih =>
    intro i lv h V xi hd M qi e0 e1 e2 e4
    exact s_hv11 M e0 e1 hnd e2 e4 qi (fun _ _ _ _ => g lv h V M e0 e2) (fun z a b c => c_hold99 M.1.1 hnd (t1 h V M) (fun y => s_hv26 M e0 e1 hnd e2 e4 qi (fun lv1 d0 d1 d2 d4 d5 => c_first (fun x b0 b1 b2 => s_hv35 M d0 d1 hnd d2 d4 qi d5 (x := x.toInt) rfl (fun lv2 c0 c1 c2 c4 c5 c7 => c_bc (fun x2 k0 k1 k2 => s_hv42 M c0 c1 hnd c2 c4 qi c7 rfl (z := x2.toInt) rfl (fun e => b2 (fun y0 => by have := k2 y0; omega)) (by omega) (by omega) hw
      (fun x3 q3 lv3 f0 f1 f2 f4 _ => ih (i + 1) lv3 h V x3 (by omega) M (by omega) f0 f1 f2 f4)
      (fun x3 q3 lv3 f0 f1 f2 f4 _ _ => ih (i + 1) lv3 h V x3 (by omega) M (by omega) f0 f1 f2 f4)
      (fun z7 _ _ h8 V8 _ x3 q3 lv3 M8 f0 f1 f2 f4 _ _ => ih (i + 1) lv3 h8 V8 x3 (by omega) M8 (by omega) f0 f1 f2 f4)))))))
theorem l_hv76 {p : Int64} (M : MX 25 W ρ m A h0 h F V G) (g : ∀ x : Int32, Q (some (.int x)) h) : ∀ (d v : Nat) (lv : List (Nat × Value)) (xb xv : Int32), v + d = 41 → -1 ≤ xb.toInt → xb.toInt ≤ 40 → xv.toInt = (v : Int) → m_lk lv 0 = some (.ref m) → m_lk lv 2 = some (.long p) → m_lk lv 4 = some (.int xb) → m_lk lv 5 = some (.int xv) → HJ 153 76 lv [] h Q := by
  intro d
  induction d with
  | zero =>
    intro v lv xb xv hd b0 b1 qv e0 e2 e4 e5
    exact s_hv76 M e0 e2 e4 rfl e5 qv (fun _ => g xb) (fun c => by omega)
  | succ d ih =>
    intro v lv xb xv hd b0 b1 qv e0 e2 e4 e5
    exact s_hv76 M e0 e2 e4 rfl e5 qv (fun _ => g xb) (fun c => c_bit (fun y => s_hv89 M e0 e2 e4 rfl e5 qv b0 b1 (by omega) (by omega)
      (fun x2 q2 lv2 d0 d2 d4 d5 _ => ih (v + 1) lv2 _ x2 (by omega) (by omega) (by omega) (by omega) d0 d2 d4 d5)
      (fun x2 q2 lv2 d0 d2 d4 d5 _ _ => ih (v + 1) lv2 _ x2 (by omega) (by omega) (by omega) (by omega) d0 d2 d4 d5)
      (fun x2 q2 lv2 d0 d2 d4 d5 _ _ _ => ih (v + 1) lv2 _ x2 (by omega) (by omega) (by omega) (by omega) d0 d2 d4 d5)
      (fun x2 q2 lv2 d0 d2 d4 d5 _ _ _ => ih (v + 1) lv2 _ x2 (by omega) (by omega) (by omega) (by omega) d0 d2 d4 d5)))
theorem c_heaviest {nd : Nat} {p : Int64} (M : MX 25 W ρ m A h0 h F V G) (e0 : m_lk lv 0 = some (.ref m)) (e1 : m_lk lv 1 = some (.ref nd)) (e2 : m_lk lv 2 = some (.long p)) (hnd : ρ nd = 39) (t1 : ∀ (h : MH) (V : Nat → Nat → Int), MX 25 W ρ m A h0 h F V G → t_nd ρ h) (hw : d_sub [(28, 1001)] W = true) (g : ∀ (x : Int32) (h' : MH) (V' : Nat → Nat → Int), MX 25 W ρ m A h0 h' F V' G → Q (some (.int x)) h') : HJ 153 0 lv [] h Q :=
  s_hv0 M e0 e1 hnd e2 (fun x q => c_fill M hw (fun h2 V2 M2 => s_hv8 M2 e0 e1 hnd e2 (fun x1 q1 lv2 d0 d1 d2 d4 => l_hv11 hnd t1 hw (fun lv3 h3 V3 M3 f0 f2 => s_hv70 M3 f0 f2 (fun x4 q4 x5 q5 lv5 k0 k2 k4 k5 => l_hv76 M3 (fun x => g x h3 V3 M3) 41 0 lv5 x4 x5 rfl (by omega) (by omega) q5 k0 k2 k4 k5)) 15120 0 lv2 h2 V2 x1 rfl M2 q1 d0 d1 d2 d4)))
end
