section
-- COVER AND FORGET: bits of versions
theorem lg_0 {x y : Int64} : (lg_cmp x y).toInt = 0 ↔ x = y := by
  unfold lg_cmp
  by_cases h1 : x > y
  · rw [if_pos h1]
    constructor
    · intro z
      exact absurd z (by decide)
    · intro z
      rw [z] at h1
      exact absurd h1 (Int64.lt_irrefl)
  · rw [if_neg h1]
    by_cases h2 : x = y
    · rw [if_pos h2]
      exact ⟨fun _ => h2, fun _ => by decide⟩
    · rw [if_neg h2]
      constructor
      · intro z
        exact absurd z (by decide)
      · intro z
        exact absurd z h2
def z_bit (v : Nat) : Int64 := (Int64.ofNat (1 : Fin 2).val) <<< ((Int32.ofInt (v : Int)).toInt64 &&& 63)
theorem z_bitF : ∀ v : Fin 41, (z_bit v.val).toBitVec = (1#64 <<< v.val) := by decide +kernel
theorem z_shF : ∀ v : Fin 41, ((Int32.ofInt (v.val : Int)).toInt64 &&& 63).toBitVec.smod (BitVec.ofNat 64 64) = BitVec.ofNat 64 v.val := by decide +kernel
theorem z_none {x : Int64} {v : Nat} (hv : v ≤ 40) (h : ¬ (x >>> ((Int32.ofInt (v : Int)).toInt64 &&& 63)) &&& (Int64.ofNat (1 : Fin 2).val) = Int64.ofNat (1 : Fin 2).val) : z_bit v &&& x = 0 := by
  have e1 := z_bitF ⟨v, by omega⟩
  have e2 := z_shF ⟨v, by omega⟩
  dsimp only at e1 e2
  have e3 : (x >>> ((Int32.ofInt (v : Int)).toInt64 &&& 63)).toBitVec = x.toBitVec.sshiftRight v := by
    rw [Int64.toBitVec_shiftRight]
    show x.toBitVec.sshiftRight' (((Int32.ofInt (v : Int)).toInt64 &&& 63).toBitVec.smod (BitVec.ofNat 64 64)) = _
    rw [e2]
    show x.toBitVec.sshiftRight (BitVec.ofNat 64 v).toNat = _
    rw [BitVec.toNat_ofNat, Nat.mod_eq_of_lt (by omega)]
  by_cases hb : x.toBitVec.getLsbD v = true
  · refine absurd ?_ h
    apply Int64.toBitVec_inj.1
    rw [Int64.toBitVec_and, e3]
    show x.toBitVec.sshiftRight v &&& 1#64 = 1#64
    apply BitVec.eq_of_getLsbD_eq
    intro i hi
    rw [BitVec.getLsbD_and, BitVec.getLsbD_one]
    by_cases e : i = 0
    · subst e
      rw [BitVec.getLsbD_sshiftRight]
      simp [hb, show v < 64 by omega]
    · simp [e]
  · apply Int64.toBitVec_inj.1
    rw [Int64.toBitVec_and, e1]
    show (1#64 <<< v) &&& x.toBitVec = 0#64
    apply BitVec.eq_of_getLsbD_eq
    intro i hi
    rw [BitVec.getLsbD_and, BitVec.getLsbD_shiftLeft, BitVec.getLsbD_one, BitVec.getLsbD_zero]
    by_cases e : i = v
    · subst e
      simp at hb
      simp [hb]
    · by_cases e2 : i < v
      · simp [e2]
      · simp [show i - v ≠ 0 by omega]
theorem z_or {a b x : Int64} (h : b &&& x = 0) : (a ||| b) &&& x = a &&& x := by
  have h2 : b.toBitVec &&& x.toBitVec = 0#64 := by
    have := congrArg Int64.toBitVec h
    rw [Int64.toBitVec_and] at this
    exact this
  apply Int64.toBitVec_inj.1
  rw [Int64.toBitVec_and, Int64.toBitVec_and, Int64.toBitVec_or]
  apply BitVec.eq_of_getLsbD_eq
  intro i hi
  have h3 := congrArg (fun z => z.getLsbD i) h2
  rw [BitVec.getLsbD_and, BitVec.getLsbD_zero] at h3
  rw [BitVec.getLsbD_and, BitVec.getLsbD_and, BitVec.getLsbD_or]
  revert h3
  cases a.toBitVec.getLsbD i <;> cases b.toBitVec.getLsbD i <;> cases x.toBitVec.getLsbD i <;> simp
theorem z_not {a x : Int64} (h1 : a ≠ 0) (h2 : a &&& (x ^^^ (-1)) = 0) : ¬ a &&& x = 0 := fun h => h1 (by
  have g2 : a.toBitVec &&& (x.toBitVec ^^^ (-1 : Int64).toBitVec) = 0#64 := by
    have := congrArg Int64.toBitVec h2
    rw [Int64.toBitVec_and, Int64.toBitVec_xor] at this
    exact this
  have g : a.toBitVec &&& x.toBitVec = 0#64 := by
    have := congrArg Int64.toBitVec h
    rw [Int64.toBitVec_and] at this
    exact this
  have o : (-1 : Int64).toBitVec = BitVec.allOnes 64 := by decide +kernel
  rw [o] at g2
  apply Int64.toBitVec_inj.1
  show a.toBitVec = 0#64
  apply BitVec.eq_of_getLsbD_eq
  intro i hi
  have h3 := congrArg (fun z => z.getLsbD i) g2
  have h4 := congrArg (fun z => z.getLsbD i) g
  rw [BitVec.getLsbD_and, BitVec.getLsbD_xor, BitVec.getLsbD_allOnes, BitVec.getLsbD_zero] at h3
  rw [BitVec.getLsbD_and, BitVec.getLsbD_zero] at h4
  rw [BitVec.getLsbD_zero]
  rw [decide_eq_true hi] at h3
  revert h3 h4
  cases a.toBitVec.getLsbD i <;> cases x.toBitVec.getLsbD i <;> simp)
-- how many of a set; how many nodes some of a set hold
def z_cb (x : Int64) : Nat → Nat
  | 0 => 0
  | v + 1 => z_cb x v + (if z_bit v &&& x = 0 then 0 else 1)
def z_hc (H : Nat → Int64) (x : Int64) : Nat → Nat
  | 0 => 0
  | n + 1 => z_hc H x n + (if H n &&& x = 0 then 0 else 1)
theorem z_hcC {H H' : Nat → Int64} {x : Int64} : ∀ {n : Nat}, (∀ i, i < n → H' i = H i) → z_hc H' x n = z_hc H x n
  | 0, _ => rfl
  | n + 1, h => by rw [z_hc, z_hc, z_hcC (n := n) (fun i hi => h i (by omega)), h n (by omega)]
theorem z_hcM {H : Nat → Int64} {x : Int64} {k : Nat} : ∀ {n : Nat}, k ≤ n → z_hc H x k ≤ z_hc H x n
  | 0, h => by rw [show k = 0 by omega]; exact Nat.le_refl _
  | n + 1, h => by
    by_cases e : k = n + 1
    · rw [e]; exact Nat.le_refl _
    · have := z_hcM (H := H) (x := x) (k := k) (n := n) (by omega)
      rw [z_hc]
      omega
theorem z_hcU {H : Nat → Int64} {x b : Int64} {a : Nat} : ∀ n : Nat, z_hc (m_u H a (H a ||| b)) x n ≤ z_hc H x n + (if b &&& x = 0 then 0 else 1)
  | 0 => by
    rw [z_hc]
    omega
  | n + 1 => by
    by_cases e : n = a
    · subst e
      rw [z_hc, z_hc, z_hcC (H := H) (fun i hi => m_uN _ _ _ _ (by omega)), m_uE]
      by_cases hb : b &&& x = 0
      · rw [z_or hb, if_pos hb]
        omega
      · rw [if_neg hb]
        split <;> split <;> omega
    · have := z_hcU (H := H) (x := x) (b := b) (a := a) n
      rw [z_hc, z_hc, m_uN _ _ _ _ e]
      omega
theorem z_hc0 {H : Nat → Int64} {x : Int64} : ∀ {n : Nat}, (∀ i, i < n → H i = 0) → z_hc H x n = 0
  | 0, _ => rfl
  | n + 1, h => by rw [z_hc, z_hc0 (n := n) (fun i hi => h i (by omega)), h n (by omega), if_pos Int64.zero_and]
section
variable {lv : List (Nat × Value)} {Q : Option Value → MH → Prop} {W : List (Nat × Nat)} {ρ : Nat → Nat} {m : Nat} {A : Nat → Nat} {h0 h : MH} {F : Nat → Int} {V : Nat → Nat → Int} {G : Nat → Nat → Int64}
-- has, and what it says where it says no
theorem c_has2 {x : Int64} {v : Nat} {xk : Int32} (M : MX 49 W ρ m A h0 h F V G) (hk : xk.toInt = (v : Int)) (hv : v ≤ 40) (g : ∀ z : Int32, 0 ≤ z.toInt → z.toInt ≤ 1 → (z.toInt = 0 → z_bit v &&& x = 0) → Q (some (.int z)) h) : HJ 232 0 (lv_args 0 [.long x, .int xk]) [] h Q := by
  have ex : xk = Int32.ofInt (v : Int) := by rw [← hk, Int32.ofInt_toInt]
  refine s_has M rfl rfl hk (fun z q c => g z (by omega) (by omega) (fun _ => z_none hv (fun e => c ?_))) (fun z q _ => g z (by omega) (by omega) (fun y => by omega))
  rw [ex]
  exact lg_0.mpr e
theorem l_list2 {x : Int64} {F0 : Nat → Int} {V0 : Nat → Nat → Int} (hw : d_sub g_lsW W = true) (s41 : F0 35 ≤ 41) (s0 : 0 ≤ F0 35) (g : ∀ (z : Int32) (h' : MH) (F' : Nat → Int) (V' : Nat → Nat → Int), 0 ≤ z.toInt → z.toInt ≤ 1 → MX 49 W ρ m A h0 h' F' V' G → (∀ K, K ≠ 47 → F' K = F0 K) → (∀ K, K ≠ 48 → V' K = V0 K) → (z.toInt = 1 → z_cb x (F0 35).toNat ≤ 12) → Q (some (.int z)) h') : ∀ (d v : Nat) (lv : List (Nat × Value)) (h : MH) (F : Nat → Int) (V : Nat → Nat → Int) (xv : Int32), v + d = (F0 35).toNat → MX 49 W ρ m A h0 h F V G → (∀ K, K ≠ 47 → F K = F0 K) → (∀ K, K ≠ 48 → V K = V0 K) → (z_cb x v : Int) ≤ F 47 → xv.toInt = (v : Int) → m_lk lv 0 = some (.ref m) → m_lk lv 1 = some (.long x) → m_lk lv 3 = some (.int xv) → HJ 249 7 lv [] h Q := by
  intro d
  induction d with
  | zero =>
    intro v lv h F V xv hd M fo vo I hv e0 e1 e3
    have f35 := fo 35 (by decide)
    have b := M.fi (by decide) (k := 47) (lo := 0) (hi := 12) rfl rfl rfl
    have ve : v = (F0 35).toNat := by omega
    exact s_ls7 M e0 e1 e3 hv (fun z q _ _ _ => g z h F V (by omega) (by omega) M fo vo (fun _ => by rw [← ve]; omega)) (fun _ _ c => by omega)
  | succ d ih =>
    intro v lv h F V xv hd M fo vo I hv e0 e1 e3
    have f35 := fo 35 (by decide)
    refine s_ls7 M e0 e1 e3 hv (fun z q _ _ _ => by omega) (fun _ _ c => ?_)
    refine c_has2 M hv (by omega) (fun z z0 z1 zn => ?_)
    refine s_ls20 (z := z.toInt) M e0 e1 e3 hv rfl (by omega) (by omega) (d_subm hw (by decide +kernel)) (fun x1 q1 lv1 d0 d1 d3 c20 => ih (v + 1) lv1 h F V x1 (by omega) M fo vo ?_ (by omega) d0 d1 d3) (fun h5 V5 f5 h9 F9 f9 x10 q10 lv10 M9 d0 d1 d3 _ a2 _ _ => ?_) (fun x11 q11 _ _ _ _ => g x11 h F V (by omega) (by omega) M fo vo (fun y => by omega))
    · rw [z_cb, if_pos (zn c20)]
      exact I
    · refine ih (v + 1) lv10 h9 F9 V5 x10 (by omega) M9 (fun K hK => by rw [f9, m_uN _ _ _ _ hK, fo K hK]) (fun K hK => by rw [f5, m_uN _ _ _ _ hK, vo K hK]) ?_ (by omega) d0 d1 d3
      rw [f9, m_uE, z_cb]
      split <;> omega
theorem c_list2 {x : Int64} (M : MX 49 W ρ m A h0 h F V G) (hw : d_sub g_lsW W = true) (s0 : 0 ≤ F 35) (s41 : F 35 ≤ 41) (g : ∀ (z : Int32) (h' : MH) (F' : Nat → Int) (V' : Nat → Nat → Int), 0 ≤ z.toInt → z.toInt ≤ 1 → MX 49 W ρ m A h0 h' F' V' G → (∀ K, K ≠ 47 → F' K = F K) → (∀ K, K ≠ 48 → V' K = V K) → (z.toInt = 1 → z_cb x (F 35).toNat ≤ 12) → Q (some (.int z)) h') : HJ 249 0 (lv_args 0 [.ref m, .long x]) [] h Q := by
  have w1 : d_sub [(49, 47)] W = true := d_subm hw (by decide +kernel)
  refine s_ls0 M rfl rfl w1 (fun h2 F2 f2 x3 q3 lv4 M2 e0 e1 e3 => ?_)
  exact l_list2 (F0 := F) (V0 := V) hw s41 s0 g (F 35).toNat 0 lv4 h2 F2 V x3 (by omega) M2 (fun K hK => by rw [f2, m_uN _ _ _ _ hK]) (fun _ _ => rfl) (by rw [f2, m_uE]; exact Int.le_refl _) q3 e0 e1 e3
-- who holds what
theorem s_ho0 (M : MX 49 W ρ m A h0 h F V G) (e0 : m_lk lv 0 = some (.ref m)) 
    (g0 : ∀ x1 : Int32, x1.toInt = 0 → ∀ lv2 : List (Nat × Value), m_lk lv2 0 = some (.ref m) → m_lk lv2 1 = some (.int x1) → HJ 229 2 lv2 [] h Q)
    : HJ 229 0 lv [] h Q := by
  refine hM_ic (n := 0) rfl (by decide) rfl (fun x1 q1 => ?_) -- 0
  refine hM_si (k := 1) rfl (by decide +kernel) rfl (fun lv2 e2_1 u2 => ?_) -- 1
  have e2_0 := u2 0 _ (by decide) (Or.inl rfl) e0
  exact g0 x1 q1 lv2 e2_0 e2_1
theorem s_ho2 {k : Int} (M : MX 49 W ρ m A h0 h F V G) (e0 : m_lk lv 0 = some (.ref m)) {lx1 : Int32} (e1 : m_lk lv 1 = some (.int lx1)) (lq1 : lx1.toInt = k) (k0 : 0 ≤ k) (n1 : F 17 ≤ 16000)(hw : d_sub [(77, 1001)] W = true)
    (g0 : ∀ x2 : Int32, x2.toInt = 0 → ∀ lv3 : List (Nat × Value), m_lk lv3 0 = some (.ref m) → m_lk lv3 1 = some (.int x2) → 0 ≤ F 17 → F 17 ≤ 16000 → k ≥ F 17 → HJ 229 25 lv3 [] h Q)
    (g1 : ∀ h4 : MH, ∀ G4 : Nat → Nat → Int64, G4 = m_u G 42 (m_u (G 42) (k).toNat (Int64.ofNat (0 : Fin 2).val)) → ∀ x5 : Int32, x5.toInt = k + 1 → ∀ lv5 : List (Nat × Value), MX 49 W ρ m A h0 h4 F V G4 → m_lk lv5 0 = some (.ref m) → m_lk lv5 1 = some (.int x5) → 0 ≤ F 17 → F 17 ≤ 16000 → k < F 17 → HJ 229 2 lv5 [] h4 Q)
    : HJ 229 2 lv [] h Q := by
  refine hI_il (k := 1) rfl e1 rfl ?_ -- 2
  refine hI_al (k := 0) rfl e0 rfl ?_ -- 3
  refine hM_gi M (by decide) rfl rfl rfl (k := 17) (c := 9) (lo := 0) (hi := 16000) rfl rfl rfl rfl rfl (fun x1 q1 a1 b1 => ?_) -- 4
  refine hM_cge (off := 16) (t := 23) rfl lq1 q1 (by decide) rfl (fun c7 => ?_) (fun c7 => ?_) -- 7
  · refine hM_ic (n := 0) rfl (by decide) rfl (fun x2 q2 => ?_) -- 23
    refine hM_si (k := 1) rfl (by decide +kernel) rfl (fun lv3 e3_1 u3 => ?_) -- 24
    have e3_0 := u3 0 _ (by decide) (Or.inl rfl) e0
    exact g0 x2 q2 lv3 e3_0 e3_1 a1 b1 c7
  · refine hI_al (k := 0) rfl e0 rfl ?_ -- 10
    refine hM_ga M (by decide) rfl rfl (k := 42) (c := 9) rfl rfl rfl (by decide +kernel) rfl ?_ -- 11
    refine hI_il (k := 1) rfl e1 rfl ?_ -- 14
    refine hI_lc (n := 0) rfl rfl ?_ -- 15
    refine hM_ls M (by decide) ok_49 (K := 42) (R2 := 77) (L := 16000) (H := 16000) rfl (by decide) rfl rfl rfl (d_subm hw (by decide +kernel)) rfl lq1 (by omega) (by omega) rfl (fun h4 G4 f4 M4 => ?_) -- 16
    refine hM_inc (k := 1) (z := 1) rfl e1 lq1 (by decide) (by omega) (by omega) (by decide +kernel) rfl (fun lv5 x5 q5 e5_1 u5 => ?_) -- 17
    have e5_0 := u5 0 _ (by decide) (Or.inl rfl) e0
    refine hI_go (pc' := 2) (off := (-18)) rfl (by decide) ?_ -- 20
    exact g1 h4 G4 f4 x5 q5 lv5 M4 e5_0 e5_1 a1 b1 c7
theorem s_ho25 {v : Int} (M : MX 49 W ρ m A h0 h F V G) (e0 : m_lk lv 0 = some (.ref m)) {lx1 : Int32} (e1 : m_lk lv 1 = some (.int lx1)) (lq1 : lx1.toInt = v) 
    (g0 : 0 ≤ F 35 → F 35 ≤ 41 → v ≥ F 35 → Q none h)
    (g1 : 0 ≤ F 35 → F 35 ≤ 41 → v < F 35 → HJ 208 0 (lv_args 0 [.ref m, .int lx1]) [] h (fun v h' => HJ 229 38 lv (v.toList ++ []) h' Q))
    : HJ 229 25 lv [] h Q := by
  refine hI_il (k := 1) rfl e1 rfl ?_ -- 25
  refine hI_al (k := 0) rfl e0 rfl ?_ -- 26
  refine hM_gi M (by decide) rfl rfl rfl (k := 35) (c := 9) (lo := 0) (hi := 41) rfl rfl rfl rfl rfl (fun x1 q1 a1 b1 => ?_) -- 27
  refine hM_cge (off := 51) (t := 81) rfl lq1 q1 (by decide) rfl (fun c30 => ?_) (fun c30 => ?_) -- 30
  · refine hI_rv rfl rfl ?_
    exact g0 a1 b1 c30
  · refine hI_al (k := 0) rfl e0 rfl ?_ -- 33
    refine hI_il (k := 1) rfl e1 rfl ?_ -- 34
    refine hM_iv M (by decide) rfl rfl (by decide) (as := [.int lx1]) (r := []) rfl rfl (by decide +kernel) rfl (by decide +kernel) rfl rfl rfl rfl rfl ?_ -- 35
    exact g1 a1 b1 c30
theorem s_ho38 {v : Int} (M : MX 49 W ρ m A h0 h F V G) (e0 : m_lk lv 0 = some (.ref m)) {lx1 : Int32} (e1 : m_lk lv 1 = some (.int lx1)) (lq1 : lx1.toInt = v) 
    (g0 : HJ 219 0 (lv_args 0 [.ref m]) [] h (fun v h' => HJ 229 42 lv (v.toList ++ []) h' Q))
    : HJ 229 38 lv [] h Q := by
  refine hI_al (k := 0) rfl e0 rfl ?_ -- 38
  refine hM_iv M (by decide) rfl rfl (by decide) (as := []) (r := []) rfl rfl (by decide +kernel) rfl (by decide +kernel) rfl rfl rfl rfl rfl ?_ -- 39
  exact g0 
theorem s_ho42 {v : Int} (M : MX 49 W ρ m A h0 h F V G) (e0 : m_lk lv 0 = some (.ref m)) {lx1 : Int32} (e1 : m_lk lv 1 = some (.int lx1)) (lq1 : lx1.toInt = v) 
    (g0 : ∀ x1 : Int32, x1.toInt = 0 → ∀ lv2 : List (Nat × Value), m_lk lv2 0 = some (.ref m) → m_lk lv2 1 = some (.int lx1) → m_lk lv2 2 = some (.int x1) → HJ 229 44 lv2 [] h Q)
    : HJ 229 42 lv [] h Q := by
  refine hM_ic (n := 0) rfl (by decide) rfl (fun x1 q1 => ?_) -- 42
  refine hM_si (k := 2) rfl (by decide +kernel) rfl (fun lv2 e2_2 u2 => ?_) -- 43
  have e2_0 := u2 0 _ (by decide) (Or.inl rfl) e0
  have e2_1 := u2 1 _ (by decide) (Or.inl rfl) e1
  exact g0 x1 q1 lv2 e2_0 e2_1 e2_2
theorem s_ho44 {v i : Int} (M : MX 49 W ρ m A h0 h F V G) (e0 : m_lk lv 0 = some (.ref m)) {lx1 : Int32} (e1 : m_lk lv 1 = some (.int lx1)) (lq1 : lx1.toInt = v) {lx2 : Int32} (e2 : m_lk lv 2 = some (.int lx2)) (lq2 : lx2.toInt = i) (i0 : 0 ≤ i) (v0 : 0 ≤ v) (v1 : v ≤ 40) (w1 : F 26 ≤ 63)(hw : d_sub [(77, 1001)] W = true)
    (g0 : ∀ x2 : Int32, x2.toInt = v + 1 → ∀ lv2 : List (Nat × Value), m_lk lv2 0 = some (.ref m) → m_lk lv2 1 = some (.int x2) → m_lk lv2 2 = some (.int lx2) → 0 ≤ F 26 → F 26 ≤ 63 → i ≥ F 26 → HJ 229 25 lv2 [] h Q)
    (g1 : ∀ h5 : MH, ∀ G5 : Nat → Nat → Int64, G5 = m_u G 42 (m_u (G 42) (V 27 (i).toNat).toNat ((G 42 (V 27 (i).toNat).toNat) ||| ((Int64.ofNat (1 : Fin 2).val) <<< ((Int32.ofInt (v)).toInt64 &&& 63)))) → ∀ x6 : Int32, x6.toInt = i + 1 → ∀ lv6 : List (Nat × Value), MX 49 W ρ m A h0 h5 F V G5 → m_lk lv6 0 = some (.ref m) → m_lk lv6 1 = some (.int lx1) → m_lk lv6 2 = some (.int x6) → 0 ≤ F 26 → F 26 ≤ 63 → i < F 26 → 0 ≤ V 27 (i).toNat → V 27 (i).toNat ≤ 15999 → HJ 229 44 lv6 [] h5 Q)
    : HJ 229 44 lv [] h Q := by
  refine hI_il (k := 2) rfl e2 rfl ?_ -- 44
  refine hI_al (k := 0) rfl e0 rfl ?_ -- 45
  refine hM_gi M (by decide) rfl rfl rfl (k := 26) (c := 9) (lo := 0) (hi := 63) rfl rfl rfl rfl rfl (fun x1 q1 a1 b1 => ?_) -- 46
  refine hM_cge (off := 26) (t := 75) rfl lq2 q1 (by decide) rfl (fun c49 => ?_) (fun c49 => ?_) -- 49
  · refine hM_inc (k := 1) (z := 1) rfl e1 lq1 (by decide) (by omega) (by omega) (by decide +kernel) rfl (fun lv2 x2 q2 e2_1 u2 => ?_) -- 75
    have e2_0 := u2 0 _ (by decide) (Or.inl rfl) e0
    have e2_2 := u2 2 _ (by decide) (Or.inl rfl) e2
    refine hI_go (pc' := 25) (off := (-53)) rfl (by decide) ?_ -- 78
    exact g0 x2 q2 lv2 e2_0 e2_1 e2_2 a1 b1 c49
  · refine hI_al (k := 0) rfl e0 rfl ?_ -- 52
    refine hM_ga M (by decide) rfl rfl (k := 42) (c := 9) rfl rfl rfl (by decide +kernel) rfl ?_ -- 53
    refine hI_al (k := 0) rfl e0 rfl ?_ -- 56
    refine hM_ga M (by decide) rfl rfl (k := 27) (c := 9) rfl rfl rfl (by decide +kernel) rfl ?_ -- 57
    refine hI_il (k := 2) rfl e2 rfl ?_ -- 60
    refine hM_ia M (by decide) (K := 27) (R2 := 63) (L := 64) (H := 64) (lo := 0) (hi := 15999) rfl (by decide) rfl rfl (fun _ => rfl) rfl lq2 (by omega) (by omega) rfl (fun x3 q3 a3 b3 => ?_) -- 61
    refine hI_dup2 rfl rfl rfl rfl ?_ -- 62
    refine hM_la M (by decide) (K := 42) (R2 := 77) (L := 16000) (H := 16000) rfl (by decide) rfl rfl rfl q3 (by omega) (by omega) rfl ?_ -- 63
    refine hI_lc (n := 1) rfl rfl ?_ -- 64
    refine hI_il (k := 1) rfl e1 rfl ?_ -- 65
    refine hM_lshl rfl lq1 rfl ?_ -- 66
    refine hI_lor rfl rfl ?_ -- 67
    refine hM_ls M (by decide) ok_49 (K := 42) (R2 := 77) (L := 16000) (H := 16000) rfl (by decide) rfl rfl rfl (d_subm hw (by decide +kernel)) rfl q3 (by omega) (by omega) rfl (fun h5 G5 f5 M5 => ?_) -- 68
    refine hM_inc (k := 2) (z := 1) rfl e2 lq2 (by decide) (by omega) (by omega) (by decide +kernel) rfl (fun lv6 x6 q6 e6_2 u6 => ?_) -- 69
    have e6_0 := u6 0 _ (by decide) (Or.inl rfl) e0
    have e6_1 := u6 1 _ (by decide) (Or.inl rfl) e1
    refine hI_go (pc' := 44) (off := (-28)) rfl (by decide) ?_ -- 72
    exact g1 h5 G5 f5 x6 q6 lv6 M5 e6_0 e6_1 e6_2 a1 b1 c49 a3 b3
def g_hd : List (Nat × Nat) := g_wk ++ [(61, 1001), (77, 1001)]
def z_hI (F0 : Nat → Int) (V0 : Nat → Nat → Int) (F : Nat → Int) (V : Nat → Nat → Int) : Prop := (∀ K, K ≠ 26 → F K = F0 K) ∧ ∀ K, K < 24 ∨ 31 < K → V K = V0 K
theorem l_ho44 {v n w : Nat} {xv : Int32} (hw : d_sub [(77, 1001)] W = true) (v40 : v ≤ 40) (fw : F 26 = (w : Int)) (w63 : w ≤ 63) (hv : xv.toInt = (v : Int)) (g : ∀ (lv : List (Nat × Value)) (h : MH) (G : Nat → Nat → Int64) (xv' : Int32), MX 49 W ρ m A h0 h F V G → (∀ x, z_hc (G 42) x n ≤ 63 * z_cb x (v + 1)) → xv'.toInt = (v : Int) + 1 → m_lk lv 0 = some (.ref m) → m_lk lv 1 = some (.int xv') → HJ 229 25 lv [] h Q) : ∀ (d i : Nat) (lv : List (Nat × Value)) (h : MH) (G : Nat → Nat → Int64) (xi : Int32), i + d = w → MX 49 W ρ m A h0 h F V G → (∀ x, z_hc (G 42) x n ≤ 63 * z_cb x v + (if z_bit v &&& x = 0 then 0 else i)) → xi.toInt = (i : Int) → m_lk lv 0 = some (.ref m) → m_lk lv 1 = some (.int xv) → m_lk lv 2 = some (.int xi) → HJ 229 44 lv [] h Q := by
  intro d
  induction d with
  | zero =>
    intro i lv h G xi hd M I hi e0 e1 e2
    refine s_ho44 M e0 e1 hv e2 hi (by omega) (by omega) (by omega) (by omega) hw (fun x2 q2 lv2 d0 d1 d2 _ _ _ => g lv2 h G x2 M (fun x => ?_) q2 d0 d1) (fun h5 G5 f5 x6 q6 lv6 M5 e6_0 e6_1 e6_2 a1 b1 c49 a3 b3 => by omega)
    have := I x
    rw [z_cb]
    revert this
    split <;> intro this <;> omega
  | succ d ih =>
    intro i lv h G xi hd M I hi e0 e1 e2
    refine s_ho44 M e0 e1 hv e2 hi (by omega) (by omega) (by omega) (by omega) hw (fun x2 q2 lv2 d0 d1 d2 _ _ _ => by omega) (fun h5 G5 f5 x6 q6 lv6 M5 d0 d1 d2 _ _ _ _ _ => ?_)
    refine ih (i + 1) lv6 h5 G5 x6 (by omega) M5 (fun x => ?_) (by omega) d0 d1 d2
    have a := I x
    have b := z_hcU (H := G 42) (x := x) (b := z_bit v) (a := (V 27 (i : Int).toNat).toNat) n
    have e : G5 42 = m_u (G 42) (V 27 (i : Int).toNat).toNat (G 42 (V 27 (i : Int).toNat).toNat ||| z_bit v) := by
      rw [f5, m_uE]
      rfl
    rw [e]
    revert a b
    split <;> intro a b <;> omega
theorem l_ho25 {F0 : Nat → Int} {V0 : Nat → Nat → Int} {n : Nat} (hw : d_sub g_hd W = true) (s0 : 0 ≤ F0 35) (s41 : F0 35 ≤ 41) (n1 : F0 17 ≤ 16000) (sh : p_sh (F0 17) (V0 22) (V0 23)) (ro : p_ro (F0 17) (F0 35) (V0 22) (V0 36)) (g : ∀ (h' : MH) (F' : Nat → Int) (V' : Nat → Nat → Int) (G' : Nat → Nat → Int64), MX 49 W ρ m A h0 h' F' V' G' → z_hI F0 V0 F' V' → (∀ x, z_hc (G' 42) x n ≤ 63 * z_cb x (F0 35).toNat) → Q none h') : ∀ (d v : Nat) (lv : List (Nat × Value)) (h : MH) (F : Nat → Int) (V : Nat → Nat → Int) (G : Nat → Nat → Int64) (xv : Int32), v + d = (F0 35).toNat → MX 49 W ρ m A h0 h F V G → z_hI F0 V0 F V → (∀ x, z_hc (G 42) x n ≤ 63 * z_cb x v) → xv.toInt = (v : Int) → m_lk lv 0 = some (.ref m) → m_lk lv 1 = some (.int xv) → HJ 229 25 lv [] h Q := by
  have w1 : d_sub [(61, 1001)] W = true := d_subm hw (by decide +kernel)
  have w2 : d_sub g_wk W = true := d_subm hw (by decide +kernel)
  have w3 : d_sub [(77, 1001)] W = true := d_subm hw (by decide +kernel)
  intro d
  induction d with
  | zero =>
    intro v lv h F V G xv hd M I c hv e0 e1
    have f35 := I.1 35 (by decide)
    have ve : v = (F0 35).toNat := by omega
    subst ve
    exact s_ho25 M e0 e1 hv (fun _ _ _ => g h F V G M I c) (fun _ _ c => by omega)
  | succ d ih =>
    intro v lv h F V G xv hd M I c hv e0 e1
    have f35 := I.1 35 (by decide)
    have f17 := I.1 17 (by decide)
    refine s_ho25 M e0 e1 hv (fun _ _ _ => by omega) (fun _ _ _ => ?_)
    refine c_hand (v := v) M hv (by omega) w1 (fun h2 V2 M2 k1 k2 => ?_)
    have v22 : V2 22 = V0 22 := by rw [k2 22 (by decide), I.2 22 (by decide)]
    have v23 : V2 23 = V0 23 := by rw [k2 23 (by decide), I.2 23 (by decide)]
    refine s_ho38 M2 e0 e1 hv ?_
    refine c_walkAll M2 rfl w2 (by rw [f17, v22, v23]; exact sh) (fun r h6 => ?_) (by omega) (fun h3 F3 V3 M3 J fw X _ => ?_)
    · rw [f17, v22, k1 r h6, I.2 36 (by decide)]
      exact ro v r (by omega) h6
    · have wl := p_wsL (f := V2 24) 6
      have p64 : (2 : Nat) ^ 6 = 64 := rfl
      have I3 : z_hI F0 V0 F3 V3 := ⟨fun K hK => (J.1 K hK).trans (I.1 K hK), fun K hK => by rw [J.2 K (by omega), k2 K (by omega), I.2 K hK]⟩
      refine s_ho42 M3 e0 e1 hv (fun x1 q1 lv2 d0 d1 d2 => ?_)
      exact l_ho44 (v := v) (n := n) w3 (by omega) fw (by omega) hv (fun lv4 h4 G4 xv' M4 c4 q4 b0 b1 => ih (v + 1) lv4 h4 F3 V3 G4 xv' (by omega) M4 I3 c4 (by omega) b0 b1) (p_ws (V2 24) 6) 0 lv2 h3 G x1 (by omega) M3 (fun x => by have := c x; split <;> omega) q1 d0 d1 d2
theorem l_ho2 {n : Nat} (hw : d_sub [(77, 1001)] W = true) (fn : F 17 = (n : Int)) (n1 : n ≤ 16000) (g : ∀ (lv : List (Nat × Value)) (h : MH) (G : Nat → Nat → Int64) (x : Int32), MX 49 W ρ m A h0 h F V G → (∀ k, k < n → G 42 k = 0) → x.toInt = 0 → m_lk lv 0 = some (.ref m) → m_lk lv 1 = some (.int x) → HJ 229 25 lv [] h Q) : ∀ (d k : Nat) (lv : List (Nat × Value)) (h : MH) (G : Nat → Nat → Int64) (xk : Int32), k + d = n → MX 49 W ρ m A h0 h F V G → (∀ j, j < k → G 42 j = 0) → xk.toInt = (k : Int) → m_lk lv 0 = some (.ref m) → m_lk lv 1 = some (.int xk) → HJ 229 2 lv [] h Q := by
  intro d
  induction d with
  | zero =>
    intro k lv h G xk hd M I hk e0 e1
    exact s_ho2 M e0 e1 hk (by omega) (by omega) hw (fun x2 q2 lv3 d0 d1 _ _ _ => g lv3 h G x2 M (fun j hj => I j (by omega)) q2 d0 d1) (fun h4 G4 f4 x5 q5 lv5 M4 e5_0 e5_1 a1 b1 c7 => by omega)
  | succ d ih =>
    intro k lv h G xk hd M I hk e0 e1
    refine s_ho2 M e0 e1 hk (by omega) (by omega) hw (fun x2 q2 lv3 d0 d1 _ _ _ => by omega) (fun h4 G4 f4 x5 q5 lv5 M4 d0 d1 _ _ _ => ?_)
    rw [Int.toNat_natCast] at f4
    refine ih (k + 1) lv5 h4 G4 x5 (by omega) M4 (fun j hj => ?_) (by omega) d0 d1
    rw [f4, m_uE]
    by_cases e : j = k
    · rw [e, m_uE]
      rfl
    · rw [m_uN _ _ _ _ e]
      exact I j (by omega)
theorem c_hold (M : MX 49 W ρ m A h0 h F V G) (hw : d_sub g_hd W = true) (s0 : 0 ≤ F 35) (s41 : F 35 ≤ 41) (n0 : 0 ≤ F 17) (n1 : F 17 ≤ 16000) (sh : p_sh (F 17) (V 22) (V 23)) (ro : p_ro (F 17) (F 35) (V 22) (V 36)) (g : ∀ (h' : MH) (F' : Nat → Int) (V' : Nat → Nat → Int) (G' : Nat → Nat → Int64), MX 49 W ρ m A h0 h' F' V' G' → z_hI F V F' V' → (∀ x, z_hc (G' 42) x (F 17).toNat ≤ 63 * z_cb x (F 35).toNat) → Q none h') : HJ 229 0 (lv_args 0 [.ref m]) [] h Q := by
  have w3 : d_sub [(77, 1001)] W = true := d_subm hw (by decide +kernel)
  refine s_ho0 M rfl (fun x1 q1 lv2 e0 e1 => ?_)
  refine l_ho2 (n := (F 17).toNat) w3 (by omega) (by omega) (fun lv3 h3 G3 x M3 k1 q3 d0 d1 => ?_) (F 17).toNat 0 lv2 h G x1 (by omega) M (fun j hj => absurd hj (Nat.not_lt_zero j)) q1 e0 e1
  exact l_ho25 (F0 := F) (V0 := V) (n := (F 17).toNat) hw s0 s41 n1 sh ro g (F 35).toNat 0 lv3 h3 F V G3 x (by omega) M3 ⟨fun _ _ => rfl, fun _ _ => rfl⟩ (fun x => by rw [z_hc0 k1]; omega) q3 d0 d1
-- sets and bits, of which nothing is wanted but that they end
theorem s_bo0 {x : Int} (M : MX 49 W ρ m A h0 h F V G) {lx0 : Int32} (e0 : m_lk lv 0 = some (.int lx0)) (lq0 : lx0.toInt = x) 
    (g0 : ∀ x1 : Int32, x1.toInt = 0 → ∀ x3 : Int32, x3.toInt = 0 → ∀ lv4 : List (Nat × Value), m_lk lv4 0 = some (.int lx0) → m_lk lv4 1 = some (.int x1) → m_lk lv4 2 = some (.int x3) → HJ 250 4 lv4 [] h Q)
    : HJ 250 0 lv [] h Q := by
  refine hM_ic (n := 0) rfl (by decide) rfl (fun x1 q1 => ?_) -- 0
  refine hM_si (k := 1) rfl (by decide +kernel) rfl (fun lv2 e2_1 u2 => ?_) -- 1
  have e2_0 := u2 0 _ (by decide) (Or.inl rfl) e0
  refine hM_ic (n := 0) rfl (by decide) rfl (fun x3 q3 => ?_) -- 2
  refine hM_si (k := 2) rfl (by decide +kernel) rfl (fun lv4 e4_2 u4 => ?_) -- 3
  have e4_0 := u4 0 _ (by decide) (Or.inl rfl) e2_0
  have e4_1 := u4 1 _ (by decide) (Or.inl rfl) e2_1
  exact g0 x1 q1 x3 q3 lv4 e4_0 e4_1 e4_2
theorem s_bo4 {x n i : Int} (M : MX 49 W ρ m A h0 h F V G) {lx0 : Int32} (e0 : m_lk lv 0 = some (.int lx0)) (lq0 : lx0.toInt = x) {lx1 : Int32} (e1 : m_lk lv 1 = some (.int lx1)) (lq1 : lx1.toInt = n) {lx2 : Int32} (e2 : m_lk lv 2 = some (.int lx2)) (lq2 : lx2.toInt = i) 
    (g0 : i ≥ 12 → Q (some (.int lx1)) h)
    (g1 : i < 12 → HJ 232 0 (lv_args 0 [.long (Int32.ofInt (x)).toInt64, .int lx2]) [] h (fun v h' => HJ 250 17 lv (v.toList ++ [.int lx1]) h' Q))
    : HJ 250 4 lv [] h Q := by
  refine hI_il (k := 2) rfl e2 rfl ?_ -- 4
  refine hM_bp (n := 12) rfl (by decide) rfl (fun x1 q1 => ?_) -- 5
  refine hM_cge (off := 26) (t := 33) rfl lq2 q1 (by decide) rfl (fun c7 => ?_) (fun c7 => ?_) -- 7
  · refine hI_il (k := 1) rfl e1 rfl ?_ -- 33
    refine hI_ri rfl rfl ?_ -- 34
    exact g0 c7
  · refine hI_il (k := 1) rfl e1 rfl ?_ -- 10
    refine hI_il (k := 0) rfl e0 rfl ?_ -- 11
    refine hM_i2l rfl lq0 rfl ?_ -- 12
    refine hI_il (k := 2) rfl e2 rfl ?_ -- 13
    refine hM_is0 (as := [.long (Int32.ofInt (x)).toInt64, .int lx2]) (r := [.int lx1]) rfl rfl (by decide +kernel) rfl rfl rfl rfl rfl ?_ -- 14
    exact g1 c7
theorem s_bo17 {x n i z : Int} (M : MX 49 W ρ m A h0 h F V G) {lx0 : Int32} (e0 : m_lk lv 0 = some (.int lx0)) (lq0 : lx0.toInt = x) {lx2 : Int32} (e2 : m_lk lv 2 = some (.int lx2)) (lq2 : lx2.toInt = i) {sx0 : Int32} (sq0 : sx0.toInt = n) {sx1 : Int32} (sq1 : sx1.toInt = z) (i0 : 0 ≤ i) (i1 : i ≤ 12) (n0 : 0 ≤ n) (n1 : n ≤ 12)
    (g0 : ∀ x2 : Int32, x2.toInt = n + 0 → ∀ x4 : Int32, x4.toInt = i + 1 → ∀ lv4 : List (Nat × Value), m_lk lv4 0 = some (.int lx0) → m_lk lv4 1 = some (.int x2) → m_lk lv4 2 = some (.int x4) → z = 0 → HJ 250 4 lv4 [] h Q)
    (g1 : ∀ x6 : Int32, x6.toInt = n + 1 → ∀ x8 : Int32, x8.toInt = i + 1 → ∀ lv8 : List (Nat × Value), m_lk lv8 0 = some (.int lx0) → m_lk lv8 1 = some (.int x6) → m_lk lv8 2 = some (.int x8) → z ≠ 0 → HJ 250 4 lv8 [] h Q)
    : HJ 250 17 lv [.int sx1, .int sx0] h Q := by
  refine hM_zeq (off := 7) (t := 24) rfl sq1 (by decide) rfl (fun c17 => ?_) (fun c17 => ?_) -- 17
  · refine hM_ic (n := 0) rfl (by decide) rfl (fun x1 q1 => ?_) -- 24
    refine hM_add rfl sq0 q1 (by omega) (by omega) rfl (fun x2 q2 => ?_) -- 25
    refine hM_si (k := 1) rfl (by decide +kernel) rfl (fun lv3 e3_1 u3 => ?_) -- 26
    have e3_0 := u3 0 _ (by decide) (Or.inl rfl) e0
    have e3_2 := u3 2 _ (by decide) (Or.inl rfl) e2
    refine hM_inc (k := 2) (z := 1) rfl e3_2 lq2 (by decide) (by omega) (by omega) (by decide +kernel) rfl (fun lv4 x4 q4 e4_2 u4 => ?_) -- 27
    have e4_0 := u4 0 _ (by decide) (Or.inl rfl) e3_0
    have e4_1 := u4 1 _ (by decide) (Or.inl rfl) e3_1
    refine hI_go (pc' := 4) (off := (-26)) rfl (by decide) ?_ -- 30
    exact g0 x2 q2 x4 q4 lv4 e4_0 e4_1 e4_2 c17
  · refine hM_ic (n := 1) rfl (by decide) rfl (fun x5 q5 => ?_) -- 20
    refine hI_go (pc' := 25) (off := 4) rfl (by decide) ?_ -- 21
    refine hM_add rfl sq0 q5 (by omega) (by omega) rfl (fun x6 q6 => ?_) -- 25
    refine hM_si (k := 1) rfl (by decide +kernel) rfl (fun lv7 e7_1 u7 => ?_) -- 26
    have e7_0 := u7 0 _ (by decide) (Or.inl rfl) e0
    have e7_2 := u7 2 _ (by decide) (Or.inl rfl) e2
    refine hM_inc (k := 2) (z := 1) rfl e7_2 lq2 (by decide) (by omega) (by omega) (by decide +kernel) rfl (fun lv8 x8 q8 e8_2 u8 => ?_) -- 27
    have e8_0 := u8 0 _ (by decide) (Or.inl rfl) e7_0
    have e8_1 := u8 1 _ (by decide) (Or.inl rfl) e7_1
    refine hI_go (pc' := 4) (off := (-26)) rfl (by decide) ?_ -- 30
    exact g1 x6 q6 x8 q8 lv8 e8_0 e8_1 e8_2 c17
theorem c_bitsOf {xx : Int32} (M : MX 49 W ρ m A h0 h F V G) (g : ∀ z : Int32, Q (some (.int z)) h) : HJ 250 0 (lv_args 0 [.int xx]) [] h Q := by
  have loop : ∀ (d i n : Nat) (lv : List (Nat × Value)) (xn xi : Int32), i + d = 12 → n ≤ i → xn.toInt = (n : Int) → xi.toInt = (i : Int) → m_lk lv 0 = some (.int xx) → m_lk lv 1 = some (.int xn) → m_lk lv 2 = some (.int xi) → HJ 250 4 lv [] h Q := by
    intro d
    induction d with
    | zero =>
      intro i n lv xn xi hd hn qn qi e0 e1 e2
      exact s_bo4 M e0 rfl e1 qn e2 qi (fun _ => g xn) (fun c => by omega)
    | succ d ih =>
      intro i n lv xn xi hd hn qn qi e0 e1 e2
      refine s_bo4 M e0 rfl e1 qn e2 qi (fun _ => g xn) (fun c => c_has M qi (fun z z0 z1 => ?_))
      exact s_bo17 (z := z.toInt) M e0 rfl e2 qi qn rfl (by omega) (by omega) (by omega) (by omega) (fun x2 q2 x4 q4 lv4 d0 d1 d2 _ => ih (i + 1) n lv4 x2 x4 (by omega) (by omega) (by omega) (by omega) d0 d1 d2) (fun x2 q2 x4 q4 lv4 d0 d1 d2 _ => ih (i + 1) (n + 1) lv4 x2 x4 (by omega) (by omega) (by omega) (by omega) d0 d1 d2)
  exact s_bo0 M rfl rfl (fun x1 q1 x3 q3 lv4 e0 e1 e2 => loop 12 0 0 lv4 x1 x3 rfl (by omega) q1 q3 e0 e1 e2)
theorem s_so0 {x : Int} (M : MX 49 W ρ m A h0 h F V G) (e0 : m_lk lv 0 = some (.ref m)) {lx1 : Int32} (e1 : m_lk lv 1 = some (.int lx1)) (lq1 : lx1.toInt = x) 
    (g0 : ∀ x2 : Int32, x2.toInt = 0 → ∀ lv3 : List (Nat × Value), m_lk lv3 0 = some (.ref m) → m_lk lv3 1 = some (.int lx1) → m_lk lv3 2 = some (.long (Int64.ofNat (0 : Fin 2).val)) → m_lk lv3 4 = some (.int x2) → HJ 251 5 lv3 [] h Q)
    : HJ 251 0 lv [] h Q := by
  refine hI_lc (n := 0) rfl rfl ?_ -- 0
  refine hM_sl (k := 2) rfl (by decide +kernel) rfl (fun lv1 e1_2 u1 => ?_) -- 1
  have e1_0 := u1 0 _ (by decide) (by decide) (Or.inl rfl) e0
  have e1_1 := u1 1 _ (by decide) (by decide) (Or.inl rfl) e1
  refine hM_ic (n := 0) rfl (by decide) rfl (fun x2 q2 => ?_) -- 2
  refine hM_si2 (k := 4) rfl (by decide +kernel) rfl (fun lv3 e3_4 u3 => ?_) -- 3
  have e3_0 := u3 0 _ (by decide) (Or.inl rfl) e1_0
  have e3_1 := u3 1 _ (by decide) (Or.inl rfl) e1_1
  have e3_2 := u3 2 _ (by decide) (Or.inr (by decide)) e1_2
  exact g0 x2 q2 lv3 e3_0 e3_1 e3_2 e3_4
theorem s_so5 {x i : Int} (M : MX 49 W ρ m A h0 h F V G) (e0 : m_lk lv 0 = some (.ref m)) {lx1 : Int32} (e1 : m_lk lv 1 = some (.int lx1)) (lq1 : lx1.toInt = x) {lx2 : Int64} (e2 : m_lk lv 2 = some (.long lx2)) {lx4 : Int32} (e4 : m_lk lv 4 = some (.int lx4)) (lq4 : lx4.toInt = i) 
    (g0 : 0 ≤ F 47 → F 47 ≤ 12 → i ≥ F 47 → Q (some (.long lx2)) h)
    (g1 : 0 ≤ F 47 → F 47 ≤ 12 → i < F 47 → HJ 232 0 (lv_args 0 [.long (Int32.ofInt (x)).toInt64, .int lx4]) [] h (fun v h' => HJ 251 22 lv (v.toList ++ [.long lx2]) h' Q))
    : HJ 251 5 lv [] h Q := by
  refine hI_il2 (k := 4) rfl e4 rfl ?_ -- 5
  refine hI_al (k := 0) rfl e0 rfl ?_ -- 7
  refine hM_gi M (by decide) rfl rfl rfl (k := 47) (c := 9) (lo := 0) (hi := 12) rfl rfl rfl rfl rfl (fun x1 q1 a1 b1 => ?_) -- 8
  refine hM_cge (off := 35) (t := 46) rfl lq4 q1 (by decide) rfl (fun c11 => ?_) (fun c11 => ?_) -- 11
  · refine hI_ll (k := 2) rfl e2 rfl ?_ -- 46
    refine hI_rl rfl rfl ?_
    exact g0 a1 b1 c11
  · refine hI_ll (k := 2) rfl e2 rfl ?_ -- 14
    refine hI_il (k := 1) rfl e1 rfl ?_ -- 15
    refine hM_i2l rfl lq1 rfl ?_ -- 16
    refine hI_il2 (k := 4) rfl e4 rfl ?_ -- 17
    refine hM_is0 (as := [.long (Int32.ofInt (x)).toInt64, .int lx4]) (r := [.long lx2]) rfl rfl (by decide +kernel) rfl rfl rfl rfl rfl ?_ -- 19
    exact g1 a1 b1 c11
theorem s_so22 {x i z : Int} (M : MX 49 W ρ m A h0 h F V G) (e0 : m_lk lv 0 = some (.ref m)) {lx1 : Int32} (e1 : m_lk lv 1 = some (.int lx1)) (lq1 : lx1.toInt = x) {lx4 : Int32} (e4 : m_lk lv 4 = some (.int lx4)) (lq4 : lx4.toInt = i) {sx0 : Int64} {sx1 : Int32} (sq1 : sx1.toInt = z) (i0 : 0 ≤ i) (i1 : i ≤ 11)
    (g0 : ∀ x2 : Int32, x2.toInt = i + 1 → ∀ lv2 : List (Nat × Value), m_lk lv2 0 = some (.ref m) → m_lk lv2 1 = some (.int lx1) → m_lk lv2 2 = some (.long (sx0 ||| (Int64.ofNat (0 : Fin 2).val))) → m_lk lv2 4 = some (.int x2) → z = 0 → HJ 251 5 lv2 [] h Q)
    (g1 : ∀ x5 : Int32, x5.toInt = i + 1 → ∀ lv5 : List (Nat × Value), m_lk lv5 0 = some (.ref m) → m_lk lv5 1 = some (.int lx1) → m_lk lv5 2 = some (.long (sx0 ||| ((Int64.ofNat (1 : Fin 2).val) <<< ((Int32.ofInt (V 48 (i).toNat)).toInt64 &&& 63)))) → m_lk lv5 4 = some (.int x5) → z ≠ 0 → 0 ≤ V 48 (i).toNat → V 48 (i).toNat ≤ 40 → HJ 251 5 lv5 [] h Q)
    : HJ 251 22 lv [.int sx1, .long sx0] h Q := by
  refine hM_zeq (off := 15) (t := 37) rfl sq1 (by decide) rfl (fun c22 => ?_) (fun c22 => ?_) -- 22
  · refine hI_lc (n := 0) rfl rfl ?_ -- 37
    refine hI_lor rfl rfl ?_ -- 38
    refine hM_sl (k := 2) rfl (by decide +kernel) rfl (fun lv1 e1_2 u1 => ?_) -- 39
    have e1_0 := u1 0 _ (by decide) (by decide) (Or.inl rfl) e0
    have e1_1 := u1 1 _ (by decide) (by decide) (Or.inl rfl) e1
    have e1_4 := u1 4 _ (by decide) (by decide) (Or.inl rfl) e4
    refine hM_inc (k := 4) (z := 1) rfl e1_4 lq4 (by decide) (by omega) (by omega) (by decide +kernel) rfl (fun lv2 x2 q2 e2_4 u2 => ?_) -- 40
    have e2_0 := u2 0 _ (by decide) (Or.inl rfl) e1_0
    have e2_1 := u2 1 _ (by decide) (Or.inl rfl) e1_1
    have e2_2 := u2 2 _ (by decide) (Or.inr (by decide)) e1_2
    refine hI_go (pc' := 5) (off := (-38)) rfl (by decide) ?_ -- 43
    exact g0 x2 q2 lv2 e2_0 e2_1 e2_2 e2_4 c22
  · refine hI_lc (n := 1) rfl rfl ?_ -- 25
    refine hI_al (k := 0) rfl e0 rfl ?_ -- 26
    refine hM_ga M (by decide) rfl rfl (k := 48) (c := 9) rfl rfl rfl (by decide +kernel) rfl ?_ -- 27
    refine hI_il2 (k := 4) rfl e4 rfl ?_ -- 30
    refine hM_ia M (by decide) (K := 48) (R2 := 81) (L := 12) (H := 12) (lo := 0) (hi := 40) rfl (by decide) rfl rfl (fun _ => rfl) rfl lq4 (by omega) (by omega) rfl (fun x3 q3 a3 b3 => ?_) -- 32
    refine hM_lshl rfl q3 rfl ?_ -- 33
    refine hI_go (pc' := 38) (off := 4) rfl (by decide) ?_ -- 34
    refine hI_lor rfl rfl ?_ -- 38
    refine hM_sl (k := 2) rfl (by decide +kernel) rfl (fun lv4 e4_2 u4 => ?_) -- 39
    have e4_0 := u4 0 _ (by decide) (by decide) (Or.inl rfl) e0
    have e4_1 := u4 1 _ (by decide) (by decide) (Or.inl rfl) e1
    have e4_4 := u4 4 _ (by decide) (by decide) (Or.inl rfl) e4
    refine hM_inc (k := 4) (z := 1) rfl e4_4 lq4 (by decide) (by omega) (by omega) (by decide +kernel) rfl (fun lv5 x5 q5 e5_4 u5 => ?_) -- 40
    have e5_0 := u5 0 _ (by decide) (Or.inl rfl) e4_0
    have e5_1 := u5 1 _ (by decide) (Or.inl rfl) e4_1
    have e5_2 := u5 2 _ (by decide) (Or.inr (by decide)) e4_2
    refine hI_go (pc' := 5) (off := (-38)) rfl (by decide) ?_ -- 43
    exact g1 x5 q5 lv5 e5_0 e5_1 e5_2 e5_4 c22 a3 b3
theorem c_setOf {xx : Int32} (M : MX 49 W ρ m A h0 h F V G) (g : ∀ z : Int64, Q (some (.long z)) h) : HJ 251 0 (lv_args 0 [.ref m, .int xx]) [] h Q := by
  have loop : ∀ (d i : Nat) (lv : List (Nat × Value)) (xs : Int64) (xi : Int32), i + d = 12 → xi.toInt = (i : Int) → m_lk lv 0 = some (.ref m) → m_lk lv 1 = some (.int xx) → m_lk lv 2 = some (.long xs) → m_lk lv 4 = some (.int xi) → HJ 251 5 lv [] h Q := by
    intro d
    induction d with
    | zero =>
      intro i lv xs xi hd qi e0 e1 e2 e4
      exact s_so5 M e0 e1 rfl e2 e4 qi (fun _ _ _ => g xs) (fun _ _ c => by omega)
    | succ d ih =>
      intro i lv xs xi hd qi e0 e1 e2 e4
      refine s_so5 M e0 e1 rfl e2 e4 qi (fun _ _ _ => g xs) (fun _ _ c => c_has M qi (fun z z0 z1 => ?_))
      exact s_so22 (z := z.toInt) M e0 e1 rfl e4 qi rfl (by omega) (by omega) (fun x2 q2 lv2 d0 d1 d2 d4 _ => ih (i + 1) lv2 _ x2 (by omega) (by omega) d0 d1 d2 d4) (fun x2 q2 lv2 d0 d1 d2 d4 _ _ _ => ih (i + 1) lv2 _ x2 (by omega) (by omega) d0 d1 d2 d4)
  exact s_so0 M rfl rfl rfl (fun x2 q2 lv3 e0 e1 e2 e4 => loop 12 0 lv3 _ x2 rfl q2 e0 e1 e2 e4)
theorem s_cv0 (M : MX 49 W ρ m A h0 h F V G) (e0 : m_lk lv 0 = some (.ref m)) {lx1 : Int64} (e1 : m_lk lv 1 = some (.long lx1)) 
    (g0 : ∀ x1 : Int32, x1.toInt = 0 → ∀ lv2 : List (Nat × Value), m_lk lv2 0 = some (.ref m) → m_lk lv2 1 = some (.long lx1) → m_lk lv2 3 = some (.int x1) → HJ 252 2 lv2 [] h Q)
    : HJ 252 0 lv [] h Q := by
  refine hM_ic (n := 0) rfl (by decide) rfl (fun x1 q1 => ?_) -- 0
  refine hM_si (k := 3) rfl (by decide +kernel) rfl (fun lv2 e2_3 u2 => ?_) -- 1
  have e2_0 := u2 0 _ (by decide) (Or.inl rfl) e0
  have e2_1 := u2 1 _ (by decide) (Or.inr (by decide)) e1
  exact g0 x1 q1 lv2 e2_0 e2_1 e2_3
theorem s_cv2 {i : Int} (M : MX 49 W ρ m A h0 h F V G) (e0 : m_lk lv 0 = some (.ref m)) {lx1 : Int64} (e1 : m_lk lv 1 = some (.long lx1)) {lx3 : Int32} (e3 : m_lk lv 3 = some (.int lx3)) (lq3 : lx3.toInt = i) (i0 : 0 ≤ i) (m1 : F 49 ≤ 1024)
    (g0 : ∀ x2 : Int32, x2.toInt = 1 → 0 ≤ F 49 → F 49 ≤ 1024 → i ≥ F 49 → Q (some (.int x2)) h)
    (g1 : ∀ x5 : Int32, x5.toInt = i + 1 → ∀ lv5 : List (Nat × Value), m_lk lv5 0 = some (.ref m) → m_lk lv5 1 = some (.long lx1) → m_lk lv5 3 = some (.int x5) → 0 ≤ F 49 → F 49 ≤ 1024 → i < F 49 → (lg_cmp ((G 50 (i).toNat) &&& lx1) (Int64.ofNat (0 : Fin 2).val)).toInt ≠ 0 → HJ 252 2 lv5 [] h Q)
    (g2 : ∀ x6 : Int32, x6.toInt = 0 → 0 ≤ F 49 → F 49 ≤ 1024 → i < F 49 → (lg_cmp ((G 50 (i).toNat) &&& lx1) (Int64.ofNat (0 : Fin 2).val)).toInt = 0 → Q (some (.int x6)) h)
    : HJ 252 2 lv [] h Q := by
  refine hI_il (k := 3) rfl e3 rfl ?_ -- 2
  refine hI_al (k := 0) rfl e0 rfl ?_ -- 3
  refine hM_gi M (by decide) rfl rfl rfl (k := 49) (c := 9) (lo := 0) (hi := 1024) rfl rfl rfl rfl rfl (fun x1 q1 a1 b1 => ?_) -- 4
  refine hM_cge (off := 24) (t := 31) rfl lq3 q1 (by decide) rfl (fun c7 => ?_) (fun c7 => ?_) -- 7
  · refine hM_ic (n := 1) rfl (by decide) rfl (fun x2 q2 => ?_) -- 31
    refine hM_rb rfl rfl q2 (by omega) (by omega) ?_ -- 32
    exact g0 x2 q2 a1 b1 c7
  · refine hI_al (k := 0) rfl e0 rfl ?_ -- 10
    refine hM_ga M (by decide) rfl rfl (k := 50) (c := 9) rfl rfl rfl (by decide +kernel) rfl ?_ -- 11
    refine hI_il (k := 3) rfl e3 rfl ?_ -- 14
    refine hM_la M (by decide) (K := 50) (R2 := 82) (L := 1024) (H := 1024) rfl (by decide) rfl rfl rfl lq3 (by omega) (by omega) rfl ?_ -- 15
    refine hI_ll (k := 1) rfl e1 rfl ?_ -- 16
    refine hI_land rfl rfl ?_ -- 17
    refine hI_lc (n := 0) rfl rfl ?_ -- 18
    refine hM_lcmp rfl rfl (fun x4 q4 => ?_) -- 19
    refine hM_zne (off := 5) (t := 25) rfl q4 (by decide) rfl (fun c20 => ?_) (fun c20 => ?_) -- 20
    · refine hM_inc (k := 3) (z := 1) rfl e3 lq3 (by decide) (by omega) (by omega) (by decide +kernel) rfl (fun lv5 x5 q5 e5_3 u5 => ?_) -- 25
      have e5_0 := u5 0 _ (by decide) (Or.inl rfl) e0
      have e5_1 := u5 1 _ (by decide) (Or.inr (by decide)) e1
      refine hI_go (pc' := 2) (off := (-26)) rfl (by decide) ?_ -- 28
      exact g1 x5 q5 lv5 e5_0 e5_1 e5_3 a1 b1 c7 c20
    · refine hM_ic (n := 0) rfl (by decide) rfl (fun x6 q6 => ?_) -- 23
      refine hM_rb rfl rfl q6 (by omega) (by omega) ?_ -- 24
      exact g2 x6 q6 a1 b1 c7 c20
theorem c_covers {x : Int64} (M : MX 49 W ρ m A h0 h F V G) (g : ∀ z : Int32, Q (some (.int z)) h) : HJ 252 0 (lv_args 0 [.ref m, .long x]) [] h Q := by
  have b := M.fi (by decide) (k := 49) (lo := 0) (hi := 1024) rfl rfl rfl
  have loop : ∀ (d i : Nat) (lv : List (Nat × Value)) (xi : Int32), i + d = 1024 → xi.toInt = (i : Int) → m_lk lv 0 = some (.ref m) → m_lk lv 1 = some (.long x) → m_lk lv 3 = some (.int xi) → HJ 252 2 lv [] h Q := by
    intro d
    induction d with
    | zero =>
      intro i lv xi hd qi e0 e1 e3
      exact s_cv2 M e0 e1 e3 qi (by omega) (by omega) (fun z _ _ _ _ => g z) (fun x5 q5 lv5 _ _ _ _ _ c _ => by omega) (fun z _ _ _ _ _ => g z)
    | succ d ih =>
      intro i lv xi hd qi e0 e1 e3
      exact s_cv2 M e0 e1 e3 qi (by omega) (by omega) (fun z _ _ _ _ => g z) (fun x5 q5 lv5 d0 d1 d3 _ _ _ _ => ih (i + 1) lv5 x5 (by omega) (by omega) d0 d1 d3) (fun z _ _ _ _ _ => g z)
  exact s_cv0 M rfl rfl (fun x1 q1 lv2 e0 e1 e3 => loop 1024 0 lv2 x1 rfl q1 e0 e1 e3)
theorem s_lb0 (M : MX 49 W ρ m A h0 h F V G) (e0 : m_lk lv 0 = some (.ref m)) {lx1 : Int64} (e1 : m_lk lv 1 = some (.long lx1)) 
    (g0 : ∀ x1 : Int32, x1.toInt = 0 → ∀ x3 : Int32, x3.toInt = 0 → ∀ lv4 : List (Nat × Value), m_lk lv4 0 = some (.ref m) → m_lk lv4 1 = some (.long lx1) → m_lk lv4 3 = some (.int x1) → m_lk lv4 4 = some (.int x3) → HJ 286 5 lv4 [] h Q)
    : HJ 286 0 lv [] h Q := by
  refine hM_ic (n := 0) rfl (by decide) rfl (fun x1 q1 => ?_) -- 0
  refine hM_si (k := 3) rfl (by decide +kernel) rfl (fun lv2 e2_3 u2 => ?_) -- 1
  have e2_0 := u2 0 _ (by decide) (Or.inl rfl) e0
  have e2_1 := u2 1 _ (by decide) (Or.inr (by decide)) e1
  refine hM_ic (n := 0) rfl (by decide) rfl (fun x3 q3 => ?_) -- 2
  refine hM_si2 (k := 4) rfl (by decide +kernel) rfl (fun lv4 e4_4 u4 => ?_) -- 3
  have e4_0 := u4 0 _ (by decide) (Or.inl rfl) e2_0
  have e4_1 := u4 1 _ (by decide) (Or.inr (by decide)) e2_1
  have e4_3 := u4 3 _ (by decide) (Or.inl rfl) e2_3
  exact g0 x1 q1 x3 q3 lv4 e4_0 e4_1 e4_3 e4_4
theorem s_lb5 {n i : Int} (M : MX 49 W ρ m A h0 h F V G) (e0 : m_lk lv 0 = some (.ref m)) {lx1 : Int64} (e1 : m_lk lv 1 = some (.long lx1)) {lx3 : Int32} (e3 : m_lk lv 3 = some (.int lx3)) (lq3 : lx3.toInt = n) {lx4 : Int32} (e4 : m_lk lv 4 = some (.int lx4)) (lq4 : lx4.toInt = i) (i0 : 0 ≤ i) (m1 : F 49 ≤ 1024) (n0 : 0 ≤ n) (n1 : n ≤ i)
    (g0 : 0 ≤ F 49 → F 49 ≤ 1024 → i ≥ F 49 → Q (some (.int lx3)) h)
    (g1 : ∀ x5 : Int32, x5.toInt = n + 0 → ∀ x7 : Int32, x7.toInt = i + 1 → ∀ lv7 : List (Nat × Value), m_lk lv7 0 = some (.ref m) → m_lk lv7 1 = some (.long lx1) → m_lk lv7 3 = some (.int x5) → m_lk lv7 4 = some (.int x7) → 0 ≤ F 49 → F 49 ≤ 1024 → i < F 49 → (lg_cmp ((G 50 (i).toNat) &&& (lx1 ^^^ (-1))) (Int64.ofNat (0 : Fin 2).val)).toInt ≠ 0 → HJ 286 5 lv7 [] h Q)
    (g2 : ∀ x9 : Int32, x9.toInt = n + 1 → ∀ x11 : Int32, x11.toInt = i + 1 → ∀ lv11 : List (Nat × Value), m_lk lv11 0 = some (.ref m) → m_lk lv11 1 = some (.long lx1) → m_lk lv11 3 = some (.int x9) → m_lk lv11 4 = some (.int x11) → 0 ≤ F 49 → F 49 ≤ 1024 → i < F 49 → (lg_cmp ((G 50 (i).toNat) &&& (lx1 ^^^ (-1))) (Int64.ofNat (0 : Fin 2).val)).toInt = 0 → HJ 286 5 lv11 [] h Q)
    : HJ 286 5 lv [] h Q := by
  refine hI_il2 (k := 4) rfl e4 rfl ?_ -- 5
  refine hI_al (k := 0) rfl e0 rfl ?_ -- 7
  refine hM_gi M (by decide) rfl rfl rfl (k := 49) (c := 9) (lo := 0) (hi := 1024) rfl rfl rfl rfl rfl (fun x1 q1 a1 b1 => ?_) -- 8
  refine hM_cge (off := 35) (t := 46) rfl lq4 q1 (by decide) rfl (fun c11 => ?_) (fun c11 => ?_) -- 11
  · refine hI_il (k := 3) rfl e3 rfl ?_ -- 46
    refine hI_ri rfl rfl ?_ -- 47
    exact g0 a1 b1 c11
  · refine hI_il (k := 3) rfl e3 rfl ?_ -- 14
    refine hI_al (k := 0) rfl e0 rfl ?_ -- 15
    refine hM_ga M (by decide) rfl rfl (k := 50) (c := 9) rfl rfl rfl (by decide +kernel) rfl ?_ -- 16
    refine hI_il2 (k := 4) rfl e4 rfl ?_ -- 19
    refine hM_la M (by decide) (K := 50) (R2 := 82) (L := 1024) (H := 1024) rfl (by decide) rfl rfl rfl lq4 (by omega) (by omega) rfl ?_ -- 21
    refine hI_ll (k := 1) rfl e1 rfl ?_ -- 22
    refine hM_jc (x := (-1)) rfl rfl rfl ?_ -- 23
    refine hI_lxor rfl rfl ?_ -- 26
    refine hI_land rfl rfl ?_ -- 27
    refine hI_lc (n := 0) rfl rfl ?_ -- 28
    refine hM_lcmp rfl rfl (fun x3 q3 => ?_) -- 29
    refine hM_zne (off := 7) (t := 37) rfl q3 (by decide) rfl (fun c30 => ?_) (fun c30 => ?_) -- 30
    · refine hM_ic (n := 0) rfl (by decide) rfl (fun x4 q4 => ?_) -- 37
      refine hM_add rfl lq3 q4 (by omega) (by omega) rfl (fun x5 q5 => ?_) -- 38
      refine hM_si (k := 3) rfl (by decide +kernel) rfl (fun lv6 e6_3 u6 => ?_) -- 39
      have e6_0 := u6 0 _ (by decide) (Or.inl rfl) e0
      have e6_1 := u6 1 _ (by decide) (Or.inr (by decide)) e1
      have e6_4 := u6 4 _ (by decide) (Or.inl rfl) e4
      refine hM_inc (k := 4) (z := 1) rfl e6_4 lq4 (by decide) (by omega) (by omega) (by decide +kernel) rfl (fun lv7 x7 q7 e7_4 u7 => ?_) -- 40
      have e7_0 := u7 0 _ (by decide) (Or.inl rfl) e6_0
      have e7_1 := u7 1 _ (by decide) (Or.inr (by decide)) e6_1
      have e7_3 := u7 3 _ (by decide) (Or.inl rfl) e6_3
      refine hI_go (pc' := 5) (off := (-38)) rfl (by decide) ?_ -- 43
      exact g1 x5 q5 x7 q7 lv7 e7_0 e7_1 e7_3 e7_4 a1 b1 c11 c30
    · refine hM_ic (n := 1) rfl (by decide) rfl (fun x8 q8 => ?_) -- 33
      refine hI_go (pc' := 38) (off := 4) rfl (by decide) ?_ -- 34
      refine hM_add rfl lq3 q8 (by omega) (by omega) rfl (fun x9 q9 => ?_) -- 38
      refine hM_si (k := 3) rfl (by decide +kernel) rfl (fun lv10 e10_3 u10 => ?_) -- 39
      have e10_0 := u10 0 _ (by decide) (Or.inl rfl) e0
      have e10_1 := u10 1 _ (by decide) (Or.inr (by decide)) e1
      have e10_4 := u10 4 _ (by decide) (Or.inl rfl) e4
      refine hM_inc (k := 4) (z := 1) rfl e10_4 lq4 (by decide) (by omega) (by omega) (by decide +kernel) rfl (fun lv11 x11 q11 e11_4 u11 => ?_) -- 40
      have e11_0 := u11 0 _ (by decide) (Or.inl rfl) e10_0
      have e11_1 := u11 1 _ (by decide) (Or.inr (by decide)) e10_1
      have e11_3 := u11 3 _ (by decide) (Or.inl rfl) e10_3
      refine hI_go (pc' := 5) (off := (-38)) rfl (by decide) ?_ -- 43
      exact g2 x9 q9 x11 q11 lv11 e11_0 e11_1 e11_3 e11_4 a1 b1 c11 c30
theorem c_lostBy {x : Int64} (M : MX 49 W ρ m A h0 h F V G) (g : ∀ z : Int32, Q (some (.int z)) h) : HJ 286 0 (lv_args 0 [.ref m, .long x]) [] h Q := by
  have b := M.fi (by decide) (k := 49) (lo := 0) (hi := 1024) rfl rfl rfl
  have loop : ∀ (d i n : Nat) (lv : List (Nat × Value)) (xn xi : Int32), i + d = 1024 → n ≤ i → xn.toInt = (n : Int) → xi.toInt = (i : Int) → m_lk lv 0 = some (.ref m) → m_lk lv 1 = some (.long x) → m_lk lv 3 = some (.int xn) → m_lk lv 4 = some (.int xi) → HJ 286 5 lv [] h Q := by
    intro d
    induction d with
    | zero =>
      intro i n lv xn xi hd hn qn qi e0 e1 e3 e4
      exact s_lb5 M e0 e1 e3 qn e4 qi (by omega) (by omega) (by omega) (by omega) (fun _ _ _ => g xn) (fun x5 q5 x7 q7 lv7 _ _ _ _ _ _ c _ => by omega) (fun x5 q5 x7 q7 lv7 _ _ _ _ _ _ c _ => by omega)
    | succ d ih =>
      intro i n lv xn xi hd hn qn qi e0 e1 e3 e4
      exact s_lb5 M e0 e1 e3 qn e4 qi (by omega) (by omega) (by omega) (by omega) (fun _ _ _ => g xn) (fun x5 q5 x7 q7 lv7 d0 d1 d3 d4 _ _ c _ => ih (i + 1) n lv7 x5 x7 (by omega) (by omega) (by omega) (by omega) d0 d1 d3 d4) (fun x5 q5 x7 q7 lv7 d0 d1 d3 d4 _ _ c _ => ih (i + 1) (n + 1) lv7 x5 x7 (by omega) (by omega) (by omega) (by omega) d0 d1 d3 d4)
  exact s_lb0 M rfl rfl (fun x1 q1 x3 q3 lv4 e0 e1 e3 e4 => loop 1024 0 0 lv4 x1 x3 rfl (by omega) q1 q3 e0 e1 e3 e4)
end
end
section
-- COVER, FORGET
section
variable {lv : List (Nat × Value)} {Q : Option Value → MH → Prop} {W : List (Nat × Nat)} {ρ : Nat → Nat} {m : Nat} {A : Nat → Nat} {h0 h : MH} {F : Nat → Int} {V : Nat → Nat → Int} {G : Nat → Nat → Int64}
-- a row laid, its set listed, who holds what: at most 756 nodes
def z_cv (F : Nat → Int) (G : Nat → Nat → Int64) (x : Int64) (n : Nat) : Prop := F 17 = (n : Int) ∧ n ≤ 16000 ∧ z_hc (G 42) x n ≤ 756 ∧ 0 ≤ F 47 ∧ F 47 ≤ 12
theorem z_p2 {F : Nat → Int} (h0 : 0 ≤ F 47) (h1 : F 47 ≤ 12) : 0 ≤ (2 : Int) ^ (F 47).toNat ∧ (2 : Int) ^ (F 47).toNat ≤ 4096 := by
  have key : ∀ k : Fin 13, 0 ≤ (2 : Int) ^ k.val ∧ (2 : Int) ^ k.val ≤ 4096 := by decide
  exact key ⟨(F 47).toNat, by omega⟩
theorem s_co0 {r : Int} (M : MX 49 W ρ m A h0 h F V G) (e0 : m_lk lv 0 = some (.ref m)) {lx1 : Int32} (e1 : m_lk lv 1 = some (.int lx1)) (lq1 : lx1.toInt = r) {lx2 : Int64} (e2 : m_lk lv 2 = some (.long lx2)) (hw : d_sub [(49, 0)] W = true)
    (g0 : ∀ h2 : MH, ∀ F2 : Nat → Int, F2 = m_u F 0 (0) → MX 49 W ρ m A h0 h2 F2 V G → HJ 201 0 (lv_args 0 [.ref m, .int lx1]) [] h2 (fun v h' => HJ 248 10 lv (v.toList ++ []) h' Q))
    : HJ 248 0 lv [] h Q := by
  refine hI_al (k := 0) rfl e0 rfl ?_ -- 0
  refine hM_ic (n := 0) rfl (by decide) rfl (fun x1 q1 => ?_) -- 1
  refine hM_pi M (by decide) ok_49 rfl rfl (k := 0) (c := 9) (lo := (-2147483648)) (hi := 2147483647) rfl rfl ⟨by decide, by decide +kernel, rfl⟩ rfl (d_subm hw (by decide +kernel)) q1 (by omega) (by omega) rfl (fun h2 F2 f2 M2 => ?_) -- 2
  refine hI_al (k := 0) rfl e0 rfl ?_ -- 5
  refine hI_il (k := 1) rfl e1 rfl ?_ -- 6
  refine hM_iv M2 (by decide) rfl rfl (by decide) (as := [.int lx1]) (r := []) rfl rfl (by decide +kernel) rfl (by decide +kernel) rfl rfl rfl rfl rfl ?_ -- 7
  exact g0 h2 F2 f2 M2
theorem s_co10 {r z : Int} (M : MX 49 W ρ m A h0 h F V G) (e0 : m_lk lv 0 = some (.ref m)) {lx1 : Int32} (e1 : m_lk lv 1 = some (.int lx1)) (lq1 : lx1.toInt = r) {lx2 : Int64} (e2 : m_lk lv 2 = some (.long lx2)) {sx0 : Int32} (sq0 : sx0.toInt = z) 
    (g0 : z = 0 → Q (some (.long (-1))) h)
    (g1 : z ≠ 0 → HJ 245 0 (lv_args 0 [.ref m, .long lx2]) [] h (fun v h' => HJ 248 18 lv (v.toList ++ []) h' Q))
    : HJ 248 10 lv [.int sx0] h Q := by
  refine hM_zeq (off := 19) (t := 29) rfl sq0 (by decide) rfl (fun c10 => ?_) (fun c10 => ?_) -- 10
  · refine hM_jc (x := (-1)) rfl rfl rfl ?_ -- 29
    refine hI_rl rfl rfl ?_
    exact g0 c10
  · refine hI_al (k := 0) rfl e0 rfl ?_ -- 13
    refine hI_ll (k := 2) rfl e2 rfl ?_ -- 14
    refine hM_iv M (by decide) rfl rfl (by decide) (as := [.long lx2]) (r := []) rfl rfl (by decide +kernel) rfl (by decide +kernel) rfl rfl rfl rfl rfl ?_ -- 15
    exact g1 c10
theorem s_co18 {r z : Int} (M : MX 49 W ρ m A h0 h F V G) (e0 : m_lk lv 0 = some (.ref m)) {lx1 : Int32} (e1 : m_lk lv 1 = some (.int lx1)) (lq1 : lx1.toInt = r) {lx2 : Int64} (e2 : m_lk lv 2 = some (.long lx2)) {sx0 : Int32} (sq0 : sx0.toInt = z) 
    (g0 : z = 0 → Q (some (.long (-1))) h)
    (g1 : z ≠ 0 → HJ 249 0 (lv_args 0 [.ref m, .long lx2]) [] h (fun v h' => HJ 248 26 lv (v.toList ++ []) h' Q))
    : HJ 248 18 lv [.int sx0] h Q := by
  refine hM_zeq (off := 11) (t := 29) rfl sq0 (by decide) rfl (fun c18 => ?_) (fun c18 => ?_) -- 18
  · refine hM_jc (x := (-1)) rfl rfl rfl ?_ -- 29
    refine hI_rl rfl rfl ?_
    exact g0 c18
  · refine hI_al (k := 0) rfl e0 rfl ?_ -- 21
    refine hI_ll (k := 2) rfl e2 rfl ?_ -- 22
    refine hM_iv M (by decide) rfl rfl (by decide) (as := [.long lx2]) (r := []) rfl rfl (by decide +kernel) rfl (by decide +kernel) rfl rfl rfl rfl rfl ?_ -- 23
    exact g1 c18
theorem s_co26 {r z : Int} (M : MX 49 W ρ m A h0 h F V G) (e0 : m_lk lv 0 = some (.ref m)) {lx1 : Int32} (e1 : m_lk lv 1 = some (.int lx1)) (lq1 : lx1.toInt = r) {lx2 : Int64} (e2 : m_lk lv 2 = some (.long lx2)) {sx0 : Int32} (sq0 : sx0.toInt = z) 
    (g0 : z ≠ 0 → HJ 229 0 (lv_args 0 [.ref m]) [] h (fun v h' => HJ 248 37 lv (v.toList ++ []) h' Q))
    (g1 : z = 0 → Q (some (.long (-1))) h)
    : HJ 248 26 lv [.int sx0] h Q := by
  refine hM_zne (off := 7) (t := 33) rfl sq0 (by decide) rfl (fun c26 => ?_) (fun c26 => ?_) -- 26
  · refine hI_al (k := 0) rfl e0 rfl ?_ -- 33
    refine hM_iv M (by decide) rfl rfl (by decide) (as := []) (r := []) rfl rfl (by decide +kernel) rfl (by decide +kernel) rfl rfl rfl rfl rfl ?_ -- 34
    exact g0 c26
  · refine hM_jc (x := (-1)) rfl rfl rfl ?_ -- 29
    refine hI_rl rfl rfl ?_
    exact g1 c26
theorem s_co37 {r : Int} (M : MX 49 W ρ m A h0 h F V G) (e0 : m_lk lv 0 = some (.ref m)) {lx1 : Int32} (e1 : m_lk lv 1 = some (.int lx1)) (lq1 : lx1.toInt = r) {lx2 : Int64} (e2 : m_lk lv 2 = some (.long lx2)) (hw : d_sub [(49, 49)] W = true)
    (g0 : ∀ h2 : MH, ∀ F2 : Nat → Int, F2 = m_u F 49 (0) → ∀ x3 : Int32, x3.toInt = 0 → ∀ lv4 : List (Nat × Value), MX 49 W ρ m A h0 h2 F2 V G → m_lk lv4 0 = some (.ref m) → m_lk lv4 2 = some (.long lx2) → m_lk lv4 4 = some (.int x3) → HJ 248 45 lv4 [] h2 Q)
    : HJ 248 37 lv [] h Q := by
  refine hI_al (k := 0) rfl e0 rfl ?_ -- 37
  refine hM_ic (n := 0) rfl (by decide) rfl (fun x1 q1 => ?_) -- 38
  refine hM_pi M (by decide) ok_49 rfl rfl (k := 49) (c := 9) (lo := 0) (hi := 1024) rfl rfl ⟨by decide, by decide +kernel, rfl⟩ rfl (d_subm hw (by decide +kernel)) q1 (by omega) (by omega) rfl (fun h2 F2 f2 M2 => ?_) -- 39
  refine hM_ic (n := 0) rfl (by decide) rfl (fun x3 q3 => ?_) -- 42
  refine hM_si2 (k := 4) rfl (by decide +kernel) rfl (fun lv4 e4_4 u4 => ?_) -- 43
  have e4_0 := u4 0 _ (by decide) (Or.inl rfl) e0
  have e4_1 := u4 1 _ (by decide) (Or.inl rfl) e1
  have e4_2 := u4 2 _ (by decide) (Or.inr (by decide)) e2
  exact g0 h2 F2 f2 x3 q3 lv4 M2 e4_0 e4_2 e4_4
theorem s_co45 {k : Int} (M : MX 49 W ρ m A h0 h F V G) (e0 : m_lk lv 0 = some (.ref m)) {lx2 : Int64} (e2 : m_lk lv 2 = some (.long lx2)) {lx4 : Int32} (e4 : m_lk lv 4 = some (.int lx4)) (lq4 : lx4.toInt = k) (k0 : 0 ≤ k) (m1 : F 49 < 1024) (n1 : F 17 ≤ 16000)(hw : d_sub [(82, 1001), (49, 49)] W = true)
    (g0 : ∀ x2 : Int32, x2.toInt = (-1) → ∀ x4 : Int32, x4.toInt = 0 → ∀ lv5 : List (Nat × Value), m_lk lv5 0 = some (.ref m) → m_lk lv5 2 = some (.long lx2) → m_lk lv5 4 = some (.int x2) → m_lk lv5 5 = some (.int x4) → 0 ≤ F 17 → F 17 ≤ 16000 → k ≥ F 17 → HJ 248 106 lv5 [] h Q)
    (g1 : ∀ x8 : Int32, x8.toInt = k + 1 → ∀ lv8 : List (Nat × Value), m_lk lv8 0 = some (.ref m) → m_lk lv8 2 = some (.long lx2) → m_lk lv8 4 = some (.int x8) → 0 ≤ F 17 → F 17 ≤ 16000 → k < F 17 → (lg_cmp ((G 42 (k).toNat) &&& lx2) (Int64.ofNat (0 : Fin 2).val)).toInt = 0 → HJ 248 45 lv8 [] h Q)
    (g2 : ∀ h11 : MH, ∀ G11 : Nat → Nat → Int64, G11 = m_u G 50 (m_u (G 50) (F 49).toNat (G 42 (k).toNat)) → ∀ h15 : MH, ∀ F15 : Nat → Int, F15 = m_u F 49 ((F 49) + 1) → ∀ x16 : Int32, x16.toInt = k + 1 → ∀ lv16 : List (Nat × Value), MX 49 W ρ m A h0 h15 F15 V G11 → m_lk lv16 0 = some (.ref m) → m_lk lv16 2 = some (.long lx2) → m_lk lv16 4 = some (.int x16) → 0 ≤ F 17 → F 17 ≤ 16000 → k < F 17 → (lg_cmp ((G 42 (k).toNat) &&& lx2) (Int64.ofNat (0 : Fin 2).val)).toInt ≠ 0 → 0 ≤ F 49 → F 49 ≤ 1024 → HJ 248 45 lv16 [] h15 Q)
    : HJ 248 45 lv [] h Q := by
  refine hI_il2 (k := 4) rfl e4 rfl ?_ -- 45
  refine hI_al (k := 0) rfl e0 rfl ?_ -- 47
  refine hM_gi M (by decide) rfl rfl rfl (k := 17) (c := 9) (lo := 0) (hi := 16000) rfl rfl rfl rfl rfl (fun x1 q1 a1 b1 => ?_) -- 48
  refine hM_cge (off := 49) (t := 100) rfl lq4 q1 (by decide) rfl (fun c51 => ?_) (fun c51 => ?_) -- 51
  · refine hM_ic (n := (-1)) rfl (by decide) rfl (fun x2 q2 => ?_) -- 100
    refine hM_si2 (k := 4) rfl (by decide +kernel) rfl (fun lv3 e3_4 u3 => ?_) -- 101
    have e3_0 := u3 0 _ (by decide) (Or.inl rfl) e0
    have e3_2 := u3 2 _ (by decide) (Or.inr (by decide)) e2
    refine hM_ic (n := 0) rfl (by decide) rfl (fun x4 q4 => ?_) -- 103
    refine hM_si2 (k := 5) rfl (by decide +kernel) rfl (fun lv5 e5_5 u5 => ?_) -- 104
    have e5_0 := u5 0 _ (by decide) (Or.inl rfl) e3_0
    have e5_2 := u5 2 _ (by decide) (Or.inr (by decide)) e3_2
    have e5_4 := u5 4 _ (by decide) (Or.inl rfl) e3_4
    exact g0 x2 q2 x4 q4 lv5 e5_0 e5_2 e5_4 e5_5 a1 b1 c51
  · refine hI_al (k := 0) rfl e0 rfl ?_ -- 54
    refine hM_ga M (by decide) rfl rfl (k := 42) (c := 9) rfl rfl rfl (by decide +kernel) rfl ?_ -- 55
    refine hI_il2 (k := 4) rfl e4 rfl ?_ -- 58
    refine hM_la M (by decide) (K := 42) (R2 := 77) (L := 16000) (H := 16000) rfl (by decide) rfl rfl rfl lq4 (by omega) (by omega) rfl ?_ -- 60
    refine hI_ll (k := 2) rfl e2 rfl ?_ -- 61
    refine hI_land rfl rfl ?_ -- 62
    refine hI_lc (n := 0) rfl rfl ?_ -- 63
    refine hM_lcmp rfl rfl (fun x7 q7 => ?_) -- 64
    refine hM_zeq (off := 29) (t := 94) rfl q7 (by decide) rfl (fun c65 => ?_) (fun c65 => ?_) -- 65
    · refine hM_inc (k := 4) (z := 1) rfl e4 lq4 (by decide) (by omega) (by omega) (by decide +kernel) rfl (fun lv8 x8 q8 e8_4 u8 => ?_) -- 94
      have e8_0 := u8 0 _ (by decide) (Or.inl rfl) e0
      have e8_2 := u8 2 _ (by decide) (Or.inr (by decide)) e2
      refine hI_go (pc' := 45) (off := (-52)) rfl (by decide) ?_ -- 97
      exact g1 x8 q8 lv8 e8_0 e8_2 e8_4 a1 b1 c51 c65
    · refine hI_al (k := 0) rfl e0 rfl ?_ -- 68
      refine hM_ga M (by decide) rfl rfl (k := 50) (c := 9) rfl rfl rfl (by decide +kernel) rfl ?_ -- 69
      refine hI_al (k := 0) rfl e0 rfl ?_ -- 72
      refine hM_gi M (by decide) rfl rfl rfl (k := 49) (c := 9) (lo := 0) (hi := 1024) rfl rfl rfl rfl rfl (fun x9 q9 a9 b9 => ?_) -- 73
      refine hI_al (k := 0) rfl e0 rfl ?_ -- 76
      refine hM_ga M (by decide) rfl rfl (k := 42) (c := 9) rfl rfl rfl (by decide +kernel) rfl ?_ -- 77
      refine hI_il2 (k := 4) rfl e4 rfl ?_ -- 80
      refine hM_la M (by decide) (K := 42) (R2 := 77) (L := 16000) (H := 16000) rfl (by decide) rfl rfl rfl lq4 (by omega) (by omega) rfl ?_ -- 82
      refine hM_ls M (by decide) ok_49 (K := 50) (R2 := 82) (L := 1024) (H := 1024) rfl (by decide) rfl rfl rfl (d_subm hw (by decide +kernel)) rfl q9 (by omega) (by omega) rfl (fun h11 G11 f11 M11 => ?_) -- 83
      refine hI_al (k := 0) rfl e0 rfl ?_ -- 84
      refine hI_dup rfl rfl rfl ?_ -- 85
      refine hM_gi M11 (by decide) rfl rfl rfl (k := 49) (c := 9) (lo := 0) (hi := 1024) rfl rfl rfl rfl rfl (fun x12 q12 a12 b12 => ?_) -- 86
      refine hM_ic (n := 1) rfl (by decide) rfl (fun x13 q13 => ?_) -- 89
      refine hM_add rfl q12 q13 (by omega) (by omega) rfl (fun x14 q14 => ?_) -- 90
      refine hM_pi M11 (by decide) ok_49 rfl rfl (k := 49) (c := 9) (lo := 0) (hi := 1024) rfl rfl ⟨by decide, by decide +kernel, rfl⟩ rfl (d_subm hw (by decide +kernel)) q14 (by omega) (by omega) rfl (fun h15 F15 f15 M15 => ?_) -- 91
      refine hM_inc (k := 4) (z := 1) rfl e4 lq4 (by decide) (by omega) (by omega) (by decide +kernel) rfl (fun lv16 x16 q16 e16_4 u16 => ?_) -- 94
      have e16_0 := u16 0 _ (by decide) (Or.inl rfl) e0
      have e16_2 := u16 2 _ (by decide) (Or.inr (by decide)) e2
      refine hI_go (pc' := 45) (off := (-52)) rfl (by decide) ?_ -- 97
      exact g2 h11 G11 f11 h15 F15 f15 x16 q16 lv16 M15 e16_0 e16_2 e16_4 a1 b1 c51 c65 a9 b9
theorem s_co106 {b i : Int} (M : MX 49 W ρ m A h0 h F V G) (e0 : m_lk lv 0 = some (.ref m)) {lx4 : Int32} (e4 : m_lk lv 4 = some (.int lx4)) (lq4 : lx4.toInt = b) {lx5 : Int32} (e5 : m_lk lv 5 = some (.int lx5)) (lq5 : lx5.toInt = i) (t0 : 0 ≤ (2 : Int) ^ (F 47).toNat) (t1 : (2 : Int) ^ (F 47).toNat ≤ 4096)
    (g0 : 0 ≤ F 47 → F 47 ≤ 12 → i ≥ (2 : Int) ^ (F 47).toNat → HJ 251 0 (lv_args 0 [.ref m, .int lx4]) [] h (fun v h' => HJ 248 170 lv (v.toList ++ []) h' Q))
    (g1 : 0 ≤ F 47 → F 47 ≤ 12 → i < (2 : Int) ^ (F 47).toNat → b = (-1) → HJ 251 0 (lv_args 0 [.ref m, .int lx5]) [] h (fun v h' => HJ 248 143 lv (v.toList ++ [.ref m]) h' Q))
    (g2 : 0 ≤ F 47 → F 47 ≤ 12 → i < (2 : Int) ^ (F 47).toNat → b ≠ (-1) → HJ 250 0 (lv_args 0 [.int lx5]) [] h (fun v h' => HJ 248 128 lv (v.toList ++ []) h' Q))
    : HJ 248 106 lv [] h Q := by
  refine hI_il2 (k := 5) rfl e5 rfl ?_ -- 106
  refine hM_ic (n := 1) rfl (by decide) rfl (fun x1 q1 => ?_) -- 108
  refine hI_al (k := 0) rfl e0 rfl ?_ -- 109
  refine hM_gi M (by decide) rfl rfl rfl (k := 47) (c := 9) (lo := 0) (hi := 12) rfl rfl rfl rfl rfl (fun x2 q2 a2 b2 => ?_) -- 110
  refine hM_shl rfl q1 q2 (by omega) (by omega) rfl (fun x3 q3 => ?_) -- 113
  refine hM_cge (off := 50) (t := 164) rfl lq5 q3 (by decide) rfl (fun c114 => ?_) (fun c114 => ?_) -- 114
  · refine hI_al (k := 0) rfl e0 rfl ?_ -- 164
    refine hI_il2 (k := 4) rfl e4 rfl ?_ -- 165
    refine hM_iv M (by decide) rfl rfl (by decide) (as := [.int lx4]) (r := []) rfl rfl (by decide +kernel) rfl (by decide +kernel) rfl rfl rfl rfl rfl ?_ -- 167
    exact g0 a2 b2 c114
  · refine hI_il2 (k := 4) rfl e4 rfl ?_ -- 117
    refine hM_ic (n := (-1)) rfl (by decide) rfl (fun x4 q4 => ?_) -- 119
    refine hM_ceq (off := 16) (t := 136) rfl lq4 q4 (by decide) rfl (fun c120 => ?_) (fun c120 => ?_) -- 120
    · refine hI_al (k := 0) rfl e0 rfl ?_ -- 136
      refine hI_al (k := 0) rfl e0 rfl ?_ -- 137
      refine hI_il2 (k := 5) rfl e5 rfl ?_ -- 138
      refine hM_iv M (by decide) rfl rfl (by decide) (as := [.int lx5]) (r := [.ref m]) rfl rfl (by decide +kernel) rfl (by decide +kernel) rfl rfl rfl rfl rfl ?_ -- 140
      exact g1 a2 b2 c114 c120
    · refine hI_il2 (k := 5) rfl e5 rfl ?_ -- 123
      refine hM_is0 (as := [.int lx5]) (r := []) rfl rfl (by decide +kernel) rfl rfl rfl rfl rfl ?_ -- 125
      exact g2 a2 b2 c114 c120
theorem s_co128 {b i y : Int} (M : MX 49 W ρ m A h0 h F V G) (e0 : m_lk lv 0 = some (.ref m)) {lx4 : Int32} (e4 : m_lk lv 4 = some (.int lx4)) (lq4 : lx4.toInt = b) {lx5 : Int32} (e5 : m_lk lv 5 = some (.int lx5)) (lq5 : lx5.toInt = i) {sx0 : Int32} (sq0 : sx0.toInt = y) 
    (g0 : HJ 250 0 (lv_args 0 [.int lx4]) [] h (fun v h' => HJ 248 133 lv (v.toList ++ [.int sx0]) h' Q))
    : HJ 248 128 lv [.int sx0] h Q := by
  refine hI_il2 (k := 4) rfl e4 rfl ?_ -- 128
  refine hM_is0 (as := [.int lx4]) (r := [.int sx0]) rfl rfl (by decide +kernel) rfl rfl rfl rfl rfl ?_ -- 130
  exact g0 
theorem s_co133 {b i y z : Int} (M : MX 49 W ρ m A h0 h F V G) (e0 : m_lk lv 0 = some (.ref m)) {lx4 : Int32} (e4 : m_lk lv 4 = some (.int lx4)) (lq4 : lx4.toInt = b) {lx5 : Int32} (e5 : m_lk lv 5 = some (.int lx5)) (lq5 : lx5.toInt = i) {sx0 : Int32} (sq0 : sx0.toInt = y) {sx1 : Int32} (sq1 : sx1.toInt = z) 
    (g0 : ∀ lv1 : List (Nat × Value), m_lk lv1 0 = some (.ref m) → m_lk lv1 4 = some (.int lx4) → m_lk lv1 5 = some (.int lx5) → y ≥ z → HJ 248 158 lv1 [] h Q)
    (g1 : y < z → HJ 251 0 (lv_args 0 [.ref m, .int lx5]) [] h (fun v h' => HJ 248 143 lv (v.toList ++ [.ref m]) h' Q))
    : HJ 248 133 lv [.int sx1, .int sx0] h Q := by
  refine hM_cge (off := 21) (t := 154) rfl sq0 sq1 (by decide) rfl (fun c133 => ?_) (fun c133 => ?_) -- 133
  · refine hI_il2 (k := 4) rfl e4 rfl ?_ -- 154
    refine hM_si2 (k := 4) rfl (by decide +kernel) rfl (fun lv1 e1_4 u1 => ?_) -- 156
    have e1_0 := u1 0 _ (by decide) (Or.inl rfl) e0
    have e1_5 := u1 5 _ (by decide) (Or.inl rfl) e5
    exact g0 lv1 e1_0 e1_4 e1_5 c133
  · refine hI_al (k := 0) rfl e0 rfl ?_ -- 136
    refine hI_al (k := 0) rfl e0 rfl ?_ -- 137
    refine hI_il2 (k := 5) rfl e5 rfl ?_ -- 138
    refine hM_iv M (by decide) rfl rfl (by decide) (as := [.int lx5]) (r := [.ref m]) rfl rfl (by decide +kernel) rfl (by decide +kernel) rfl rfl rfl rfl rfl ?_ -- 140
    exact g1 c133
theorem s_co143 {b i : Int} (M : MX 49 W ρ m A h0 h F V G) (e0 : m_lk lv 0 = some (.ref m)) {lx4 : Int32} (e4 : m_lk lv 4 = some (.int lx4)) (lq4 : lx4.toInt = b) {lx5 : Int32} (e5 : m_lk lv 5 = some (.int lx5)) (lq5 : lx5.toInt = i) {sx1 : Int64} 
    (g0 : HJ 252 0 (lv_args 0 [.ref m, .long sx1]) [] h (fun v h' => HJ 248 146 lv (v.toList ++ []) h' Q))
    : HJ 248 143 lv [.long sx1, .ref m] h Q := by
  refine hM_iv M (by decide) rfl rfl (by decide) (as := [.long sx1]) (r := []) rfl rfl (by decide +kernel) rfl (by decide +kernel) rfl rfl rfl rfl rfl ?_ -- 143
  exact g0 
theorem s_co146 {b i z : Int} (M : MX 49 W ρ m A h0 h F V G) (e0 : m_lk lv 0 = some (.ref m)) {lx4 : Int32} (e4 : m_lk lv 4 = some (.int lx4)) (lq4 : lx4.toInt = b) {lx5 : Int32} (e5 : m_lk lv 5 = some (.int lx5)) (lq5 : lx5.toInt = i) {sx0 : Int32} (sq0 : sx0.toInt = z) 
    (g0 : ∀ lv1 : List (Nat × Value), m_lk lv1 0 = some (.ref m) → m_lk lv1 4 = some (.int lx4) → m_lk lv1 5 = some (.int lx5) → z = 0 → HJ 248 158 lv1 [] h Q)
    (g1 : ∀ lv2 : List (Nat × Value), m_lk lv2 0 = some (.ref m) → m_lk lv2 4 = some (.int lx5) → m_lk lv2 5 = some (.int lx5) → z ≠ 0 → HJ 248 158 lv2 [] h Q)
    : HJ 248 146 lv [.int sx0] h Q := by
  refine hM_zeq (off := 8) (t := 154) rfl sq0 (by decide) rfl (fun c146 => ?_) (fun c146 => ?_) -- 146
  · refine hI_il2 (k := 4) rfl e4 rfl ?_ -- 154
    refine hM_si2 (k := 4) rfl (by decide +kernel) rfl (fun lv1 e1_4 u1 => ?_) -- 156
    have e1_0 := u1 0 _ (by decide) (Or.inl rfl) e0
    have e1_5 := u1 5 _ (by decide) (Or.inl rfl) e5
    exact g0 lv1 e1_0 e1_4 e1_5 c146
  · refine hI_il2 (k := 5) rfl e5 rfl ?_ -- 149
    refine hI_go (pc' := 156) (off := 5) rfl (by decide) ?_ -- 151
    refine hM_si2 (k := 4) rfl (by decide +kernel) rfl (fun lv2 e2_4 u2 => ?_) -- 156
    have e2_0 := u2 0 _ (by decide) (Or.inl rfl) e0
    have e2_5 := u2 5 _ (by decide) (Or.inl rfl) e5
    exact g1 lv2 e2_0 e2_4 e2_5 c146
theorem s_co158 {b i : Int} (M : MX 49 W ρ m A h0 h F V G) (e0 : m_lk lv 0 = some (.ref m)) {lx4 : Int32} (e4 : m_lk lv 4 = some (.int lx4)) (lq4 : lx4.toInt = b) {lx5 : Int32} (e5 : m_lk lv 5 = some (.int lx5)) (lq5 : lx5.toInt = i) (i0 : 0 ≤ i) (i1 : i ≤ 4096)
    (g0 : ∀ x1 : Int32, x1.toInt = i + 1 → ∀ lv1 : List (Nat × Value), m_lk lv1 0 = some (.ref m) → m_lk lv1 4 = some (.int lx4) → m_lk lv1 5 = some (.int x1) → HJ 248 106 lv1 [] h Q)
    : HJ 248 158 lv [] h Q := by
  refine hM_inc (k := 5) (z := 1) rfl e5 lq5 (by decide) (by omega) (by omega) (by decide +kernel) rfl (fun lv1 x1 q1 e1_5 u1 => ?_) -- 158
  have e1_0 := u1 0 _ (by decide) (Or.inl rfl) e0
  have e1_4 := u1 4 _ (by decide) (Or.inl rfl) e4
  refine hI_go (pc' := 106) (off := (-55)) rfl (by decide) ?_ -- 161
  exact g0 x1 q1 lv1 e1_0 e1_4 e1_5
theorem s_co170 (M : MX 49 W ρ m A h0 h F V G) {sx0 : Int64} 
    (g0 : Q (some (.long sx0)) h)
    : HJ 248 170 lv [.long sx0] h Q := by
  refine hI_rl rfl rfl ?_
  exact g0 
theorem l_co45 {x : Int64} {n : Nat} (hw : d_sub [(82, 1001), (49, 49)] W = true) (g : ∀ (lv : List (Nat × Value)) (h : MH) (F : Nat → Int) (G : Nat → Nat → Int64) (xb xi : Int32), MX 49 W ρ m A h0 h F V G → 0 ≤ F 47 → F 47 ≤ 12 → xi.toInt = 0 → m_lk lv 0 = some (.ref m) → m_lk lv 4 = some (.int xb) → m_lk lv 5 = some (.int xi) → HJ 248 106 lv [] h Q) : ∀ (d k : Nat) (lv : List (Nat × Value)) (h : MH) (F : Nat → Int) (G : Nat → Nat → Int64) (xk : Int32), k + d = n → MX 49 W ρ m A h0 h F V G → z_cv F G x n → F 49 ≤ z_hc (G 42) x k → xk.toInt = (k : Int) → m_lk lv 0 = some (.ref m) → m_lk lv 2 = some (.long x) → m_lk lv 4 = some (.int xk) → HJ 248 45 lv [] h Q := by
  intro d
  induction d with
  | zero =>
    intro k lv h F G xk hd M I c hk e0 e2 e4
    have kn : k = n := by omega
    subst kn
    obtain ⟨i1, i2, i3, i4, i5⟩ := I
    exact s_co45 M e0 e2 e4 hk (by omega) (by omega) (by omega) hw (fun x2 q2 x4 q4 lv5 d0 d2 d4 d5 _ _ _ => g lv5 h F G x2 x4 M i4 i5 q4 d0 d4 d5) (fun x8 q8 lv8 _ _ _ _ _ c _ => by omega) (fun h11 G11 f11 h15 F15 f15 x16 q16 lv16 M15 _ _ _ _ _ c _ _ _ => by omega)
  | succ d ih =>
    intro k lv h F G xk hd M I c hk e0 e2 e4
    have I' := I
    obtain ⟨i1, i2, i3, i4, i5⟩ := I'
    have mono := z_hcM (H := G 42) (x := x) (k := k) (n := n) (by omega)
    refine s_co45 M e0 e2 e4 hk (by omega) (by omega) (by omega) hw (fun x2 q2 x4 q4 lv5 d0 d2 d4 d5 _ _ _ => by omega) (fun x8 q8 lv8 d0 d2 d4 _ _ _ c65 => ?_) (fun h11 G11 f11 h15 F15 f15 x16 q16 lv16 M15 d0 d2 d4 _ _ _ c65 _ _ => ?_)
    · rw [Int.toNat_natCast] at c65
      refine ih (k + 1) lv8 h F G x8 (by omega) M I ?_ (by omega) d0 d2 d4
      have e : G 42 k &&& x = 0 := lg_0.mp c65
      rw [z_hc, if_pos e]
      exact c
    · rw [Int.toNat_natCast] at c65
      have e : ¬ G 42 k &&& x = 0 := fun y => c65 (lg_0.mpr y)
      have g42 : G11 42 = G 42 := by rw [f11, m_uN _ _ _ _ (by decide)]
      refine ih (k + 1) lv16 h15 F15 G11 x16 (by omega) M15 ⟨by rw [f15, m_uN _ _ _ _ (by decide), i1], i2, by rw [g42]; exact i3, by rw [f15, m_uN _ _ _ _ (by decide)]; exact i4, by rw [f15, m_uN _ _ _ _ (by decide)]; exact i5⟩ ?_ (by omega) d0 d2 d4
      rw [f15, m_uE, g42, z_hc, if_neg e]
      omega
theorem l_co106 (M : MX 49 W ρ m A h0 h F V G) (s0 : 0 ≤ F 47) (s12 : F 47 ≤ 12) (g : ∀ z : Int64, Q (some (.long z)) h) : ∀ (d i : Nat) (lv : List (Nat × Value)) (xb xi : Int32), i + d = 4096 → xi.toInt = (i : Int) → m_lk lv 0 = some (.ref m) → m_lk lv 4 = some (.int xb) → m_lk lv 5 = some (.int xi) → HJ 248 106 lv [] h Q := by
  have p := z_p2 s0 s12
  have fin : ∀ (lv : List (Nat × Value)) (xb : Int32), HJ 251 0 (lv_args 0 [.ref m, .int xb]) [] h (fun v h' => HJ 248 170 lv (v.toList ++ []) h' Q) := fun lv xb => c_setOf M (fun z => s_co170 M (g z))
  intro d
  induction d with
  | zero =>
    intro i lv xb xi hd hi e0 e4 e5
    exact s_co106 M e0 e4 rfl e5 hi p.1 p.2 (fun _ _ _ => fin lv xb) (fun _ _ c _ => by omega) (fun _ _ c _ => by omega)
  | succ d ih =>
    intro i lv xb xi hd hi e0 e4 e5
    have nx : ∀ (lv : List (Nat × Value)) (xb : Int32), m_lk lv 0 = some (.ref m) → m_lk lv 4 = some (.int xb) → m_lk lv 5 = some (.int xi) → HJ 248 158 lv [] h Q := fun lv xb e0 e4 e5 => s_co158 M e0 e4 rfl e5 hi (by omega) (by omega) (fun x1 q1 lv1 d0 d4 d5 => ih (i + 1) lv1 xb x1 (by omega) (by omega) d0 d4 d5)
    have cov : HJ 251 0 (lv_args 0 [.ref m, .int xi]) [] h (fun v h' => HJ 248 143 lv (v.toList ++ [.ref m]) h' Q) := c_setOf M (fun z => s_co143 M e0 e4 rfl e5 hi (c_covers M (fun y => s_co146 (z := y.toInt) M e0 e4 rfl e5 hi rfl (fun lv1 d0 d4 d5 _ => nx lv1 xb d0 d4 d5) (fun lv2 d0 d4 d5 _ => nx lv2 xi d0 d4 d5))))
    exact s_co106 M e0 e4 rfl e5 hi p.1 p.2 (fun _ _ _ => fin lv xb) (fun _ _ _ _ => cov) (fun _ _ _ _ => c_bitsOf M (fun y => s_co128 (y := y.toInt) M e0 e4 rfl e5 hi rfl (c_bitsOf M (fun z => s_co133 (y := y.toInt) (z := z.toInt) M e0 e4 rfl e5 hi rfl rfl (fun lv1 d0 d4 d5 _ => nx lv1 xb d0 d4 d5) (fun _ => cov)))))
def g_cvr : List (Nat × Nat) := g_la ++ g_lsW ++ g_hd ++ [(82, 1001), (49, 49), (49, 0)]
theorem c_cover {r : Int} {x : Int64} {xr : Int32} (M : MX 49 W ρ m A h0 h F V G) (b0_ : m_lk lv 0 = some (.ref m)) (b1_ : m_lk lv 1 = some (.int xr)) (b2_ : m_lk lv 2 = some (.long x)) (hw : d_sub g_cvr W = true) (qr : xr.toInt = r) (rw_ : p_rw (V 6)) (g : ∀ (x : Int64) (h' : MH) (F' : Nat → Int) (V' : Nat → Nat → Int) (G' : Nat → Nat → Int64), MX 49 W ρ m A h0 h' F' V' G' → Q (some (.long x)) h') : HJ 248 0 lv [] h Q := by
  have w0 : d_sub [(49, 0)] W = true := d_subm hw (by decide +kernel)
  have w1 : d_sub g_la W = true := d_subm hw (by decide +kernel)
  have w2 : d_sub g_lsW W = true := d_subm hw (by decide +kernel)
  have w3 : d_sub g_hd W = true := d_subm hw (by decide +kernel)
  have w4 : d_sub [(82, 1001), (49, 49)] W = true := d_subm hw (by decide +kernel)
  have w5 : d_sub [(49, 49)] W = true := d_subm hw (by decide +kernel)
  refine s_co0 M b0_ b1_ qr b2_ w0 (fun h2 F2 f2 M2 => ?_)
  refine c_lay M2 rfl rfl w1 qr rw_ (fun z h3 F3 V3 G3 M3 hz0 => ?_)
  have hz : z.toInt = 0 ∨ (z.toInt = 1 ∧ g_ly F3 V3 40) := hz0.imp (fun q => q.1) (fun q => ⟨q.1, q.2.1⟩)
  refine s_co10 (z := z.toInt) M3 b0_ b1_ qr b2_ rfl (fun _ => g _ h3 F3 V3 G3 M3) (fun c10 => ?_)
  obtain ⟨-, ⟨⟨i1, i2, i3⟩, i4, i5, i6⟩⟩ := hz.resolve_left c10
  refine c_are M3 (fun z2 _ _ => ?_)
  refine s_co18 (z := z2.toInt) M3 b0_ b1_ qr b2_ rfl (fun _ => g _ h3 F3 V3 G3 M3) (fun _ => ?_)
  refine c_list2 M3 w2 (by omega) (by omega) (fun z3 h4 F4 V4 z30 z31 M4 fo vo cb => ?_)
  have f35 := fo 35 (by decide)
  have f17 := fo 17 (by decide)
  refine s_co26 (z := z3.toInt) M4 b0_ b1_ qr b2_ rfl (fun c26 => ?_) (fun _ => g _ h4 F4 V4 G3 M4)
  refine c_hold M4 w3 (by omega) (by omega) (by omega) (by omega) (by rw [f17, vo 22 (by decide), vo 23 (by decide)]; exact i1) (by rw [f17, f35, vo 22 (by decide), vo 36 (by decide)]; exact i3) (fun h5 F5 V5 G5 M5 I5 hc => ?_)
  have c12 := cb (by omega)
  have h5c := hc x
  rw [f35] at h5c
  have b47 := M5.fi (by decide) (k := 47) (lo := 0) (hi := 12) rfl rfl rfl
  have g17 := I5.1 17 (by decide)
  refine s_co37 M5 b0_ b1_ qr b2_ w5 (fun h6 F6 f6 x3 q3 lv4 M6 e0 e2 e4 => ?_)
  have k17 : F6 17 = F5 17 := by rw [f6, m_uN _ _ _ _ (by decide)]
  have k47 : F6 47 = F5 47 := by rw [f6, m_uN _ _ _ _ (by decide)]
  refine l_co45 (x := x) (n := (F4 17).toNat) w4 (fun lv7 h7 F7 G7 xb xi M7 s0 s12 q7 d0 d4 d5 => ?_) (F4 17).toNat 0 lv4 h6 F6 G5 x3 (by omega) M6 ⟨by omega, by omega, by omega, by omega, by omega⟩ (by rw [f6, m_uE]; exact Int.le_refl _) q3 e0 e2 e4
  exact l_co106 M7 s0 s12 (fun z => g z h7 F7 V5 G7 M7) 4096 0 lv7 xb xi rfl q7 d0 d4 d5
theorem s_fg0 {r w : Int} (M : MX 49 W ρ m A h0 h F V G) (e0 : m_lk lv 0 = some (.ref m)) {lx1 : Int32} (e1 : m_lk lv 1 = some (.int lx1)) (lq1 : lx1.toInt = r) {lx2 : Int64} (e2 : m_lk lv 2 = some (.long lx2)) {lx4 : Int32} (e4 : m_lk lv 4 = some (.int lx4)) (lq4 : lx4.toInt = w) (hw : d_sub [(49, 0)] W = true)
    (g0 : ∀ h2 : MH, ∀ F2 : Nat → Int, F2 = m_u F 0 (0) → MX 49 W ρ m A h0 h2 F2 V G → HJ 201 0 (lv_args 0 [.ref m, .int lx1]) [] h2 (fun v h' => HJ 285 10 lv (v.toList ++ []) h' Q))
    : HJ 285 0 lv [] h Q := by
  refine hI_al (k := 0) rfl e0 rfl ?_ -- 0
  refine hM_ic (n := 0) rfl (by decide) rfl (fun x1 q1 => ?_) -- 1
  refine hM_pi M (by decide) ok_49 rfl rfl (k := 0) (c := 9) (lo := (-2147483648)) (hi := 2147483647) rfl rfl ⟨by decide, by decide +kernel, rfl⟩ rfl (d_subm hw (by decide +kernel)) q1 (by omega) (by omega) rfl (fun h2 F2 f2 M2 => ?_) -- 2
  refine hI_al (k := 0) rfl e0 rfl ?_ -- 5
  refine hI_il (k := 1) rfl e1 rfl ?_ -- 6
  refine hM_iv M2 (by decide) rfl rfl (by decide) (as := [.int lx1]) (r := []) rfl rfl (by decide +kernel) rfl (by decide +kernel) rfl rfl rfl rfl rfl ?_ -- 7
  exact g0 h2 F2 f2 M2
theorem s_fg10 {r w z : Int} (M : MX 49 W ρ m A h0 h F V G) (e0 : m_lk lv 0 = some (.ref m)) {lx1 : Int32} (e1 : m_lk lv 1 = some (.int lx1)) (lq1 : lx1.toInt = r) {lx2 : Int64} (e2 : m_lk lv 2 = some (.long lx2)) {lx4 : Int32} (e4 : m_lk lv 4 = some (.int lx4)) (lq4 : lx4.toInt = w) {sx0 : Int32} (sq0 : sx0.toInt = z) 
    (g0 : z = 0 → Q (some (.long (-1))) h)
    (g1 : z ≠ 0 → HJ 245 0 (lv_args 0 [.ref m, .long lx2]) [] h (fun v h' => HJ 285 18 lv (v.toList ++ []) h' Q))
    : HJ 285 10 lv [.int sx0] h Q := by
  refine hM_zeq (off := 24) (t := 34) rfl sq0 (by decide) rfl (fun c10 => ?_) (fun c10 => ?_) -- 10
  · refine hM_jc (x := (-1)) rfl rfl rfl ?_ -- 34
    refine hI_rl rfl rfl ?_
    exact g0 c10
  · refine hI_al (k := 0) rfl e0 rfl ?_ -- 13
    refine hI_ll (k := 2) rfl e2 rfl ?_ -- 14
    refine hM_iv M (by decide) rfl rfl (by decide) (as := [.long lx2]) (r := []) rfl rfl (by decide +kernel) rfl (by decide +kernel) rfl rfl rfl rfl rfl ?_ -- 15
    exact g1 c10
theorem s_fg18 {r w z : Int} (M : MX 49 W ρ m A h0 h F V G) (e0 : m_lk lv 0 = some (.ref m)) {lx1 : Int32} (e1 : m_lk lv 1 = some (.int lx1)) (lq1 : lx1.toInt = r) {lx2 : Int64} (e2 : m_lk lv 2 = some (.long lx2)) {lx4 : Int32} (e4 : m_lk lv 4 = some (.int lx4)) (lq4 : lx4.toInt = w) {sx0 : Int32} (sq0 : sx0.toInt = z) 
    (g0 : z = 0 → Q (some (.long (-1))) h)
    (g1 : z ≠ 0 → HJ 249 0 (lv_args 0 [.ref m, .long lx2]) [] h (fun v h' => HJ 285 26 lv (v.toList ++ []) h' Q))
    : HJ 285 18 lv [.int sx0] h Q := by
  refine hM_zeq (off := 16) (t := 34) rfl sq0 (by decide) rfl (fun c18 => ?_) (fun c18 => ?_) -- 18
  · refine hM_jc (x := (-1)) rfl rfl rfl ?_ -- 34
    refine hI_rl rfl rfl ?_
    exact g0 c18
  · refine hI_al (k := 0) rfl e0 rfl ?_ -- 21
    refine hI_ll (k := 2) rfl e2 rfl ?_ -- 22
    refine hM_iv M (by decide) rfl rfl (by decide) (as := [.long lx2]) (r := []) rfl rfl (by decide +kernel) rfl (by decide +kernel) rfl rfl rfl rfl rfl ?_ -- 23
    exact g1 c18
theorem s_fg26 {r w z : Int} (M : MX 49 W ρ m A h0 h F V G) (e0 : m_lk lv 0 = some (.ref m)) {lx1 : Int32} (e1 : m_lk lv 1 = some (.int lx1)) (lq1 : lx1.toInt = r) {lx2 : Int64} (e2 : m_lk lv 2 = some (.long lx2)) {lx4 : Int32} (e4 : m_lk lv 4 = some (.int lx4)) (lq4 : lx4.toInt = w) {sx0 : Int32} (sq0 : sx0.toInt = z) 
    (g0 : z = 0 → Q (some (.long (-1))) h)
    (g1 : z ≠ 0 → w ≥ 0 → HJ 229 0 (lv_args 0 [.ref m]) [] h (fun v h' => HJ 285 42 lv (v.toList ++ []) h' Q))
    (g2 : z ≠ 0 → w < 0 → Q (some (.long (-1))) h)
    : HJ 285 26 lv [.int sx0] h Q := by
  refine hM_zeq (off := 8) (t := 34) rfl sq0 (by decide) rfl (fun c26 => ?_) (fun c26 => ?_) -- 26
  · refine hM_jc (x := (-1)) rfl rfl rfl ?_ -- 34
    refine hI_rl rfl rfl ?_
    exact g0 c26
  · refine hI_il2 (k := 4) rfl e4 rfl ?_ -- 29
    refine hM_zge (off := 7) (t := 38) rfl lq4 (by decide) rfl (fun c31 => ?_) (fun c31 => ?_) -- 31
    · refine hI_al (k := 0) rfl e0 rfl ?_ -- 38
      refine hM_iv M (by decide) rfl rfl (by decide) (as := []) (r := []) rfl rfl (by decide +kernel) rfl (by decide +kernel) rfl rfl rfl rfl rfl ?_ -- 39
      exact g1 c26 c31
    · refine hM_jc (x := (-1)) rfl rfl rfl ?_ -- 34
      refine hI_rl rfl rfl ?_
      exact g2 c26 c31
theorem s_fg42 {r w : Int} (M : MX 49 W ρ m A h0 h F V G) (e0 : m_lk lv 0 = some (.ref m)) {lx1 : Int32} (e1 : m_lk lv 1 = some (.int lx1)) (lq1 : lx1.toInt = r) {lx2 : Int64} (e2 : m_lk lv 2 = some (.long lx2)) {lx4 : Int32} (e4 : m_lk lv 4 = some (.int lx4)) (lq4 : lx4.toInt = w) (hw : d_sub [(49, 49)] W = true)
    (g0 : ∀ x1 : Int32, x1.toInt = 0 → ∀ h4 : MH, ∀ F4 : Nat → Int, F4 = m_u F 49 (0) → ∀ x5 : Int32, x5.toInt = 0 → ∀ lv6 : List (Nat × Value), MX 49 W ρ m A h0 h4 F4 V G → m_lk lv6 0 = some (.ref m) → m_lk lv6 2 = some (.long lx2) → m_lk lv6 4 = some (.int lx4) → m_lk lv6 5 = some (.int x1) → m_lk lv6 6 = some (.int x5) → HJ 285 53 lv6 [] h4 Q)
    : HJ 285 42 lv [] h Q := by
  refine hM_ic (n := 0) rfl (by decide) rfl (fun x1 q1 => ?_) -- 42
  refine hM_si2 (k := 5) rfl (by decide +kernel) rfl (fun lv2 e2_5 u2 => ?_) -- 43
  have e2_0 := u2 0 _ (by decide) (Or.inl rfl) e0
  have e2_1 := u2 1 _ (by decide) (Or.inl rfl) e1
  have e2_2 := u2 2 _ (by decide) (Or.inr (by decide)) e2
  have e2_4 := u2 4 _ (by decide) (Or.inl rfl) e4
  refine hI_al (k := 0) rfl e2_0 rfl ?_ -- 45
  refine hM_ic (n := 0) rfl (by decide) rfl (fun x3 q3 => ?_) -- 46
  refine hM_pi M (by decide) ok_49 rfl rfl (k := 49) (c := 9) (lo := 0) (hi := 1024) rfl rfl ⟨by decide, by decide +kernel, rfl⟩ rfl (d_subm hw (by decide +kernel)) q3 (by omega) (by omega) rfl (fun h4 F4 f4 M4 => ?_) -- 47
  refine hM_ic (n := 0) rfl (by decide) rfl (fun x5 q5 => ?_) -- 50
  refine hM_si2 (k := 6) rfl (by decide +kernel) rfl (fun lv6 e6_6 u6 => ?_) -- 51
  have e6_0 := u6 0 _ (by decide) (Or.inl rfl) e2_0
  have e6_1 := u6 1 _ (by decide) (Or.inl rfl) e2_1
  have e6_2 := u6 2 _ (by decide) (Or.inr (by decide)) e2_2
  have e6_4 := u6 4 _ (by decide) (Or.inl rfl) e2_4
  have e6_5 := u6 5 _ (by decide) (Or.inl rfl) e2_5
  exact g0 x1 q1 h4 F4 f4 x5 q5 lv6 M4 e6_0 e6_2 e6_4 e6_5 e6_6
theorem s_fg53 {w u k : Int} (M : MX 49 W ρ m A h0 h F V G) (e0 : m_lk lv 0 = some (.ref m)) {lx2 : Int64} (e2 : m_lk lv 2 = some (.long lx2)) {lx4 : Int32} (e4 : m_lk lv 4 = some (.int lx4)) (lq4 : lx4.toInt = w) {lx5 : Int32} (e5 : m_lk lv 5 = some (.int lx5)) (lq5 : lx5.toInt = u) {lx6 : Int32} (e6 : m_lk lv 6 = some (.int lx6)) (lq6 : lx6.toInt = k) (k0 : 0 ≤ k) (m1 : F 49 < 1024) (u0 : 0 ≤ u) (u1 : u ≤ k) (n1 : F 17 ≤ 16000)(hw : d_sub [(82, 1001), (49, 49)] W = true)
    (g0 : ∀ x2 : Int32, x2.toInt = (-1) → ∀ x4 : Int32, x4.toInt = 0 → ∀ lv5 : List (Nat × Value), m_lk lv5 0 = some (.ref m) → m_lk lv5 2 = some (.long lx2) → m_lk lv5 4 = some (.int lx4) → m_lk lv5 5 = some (.int lx5) → m_lk lv5 6 = some (.int x2) → m_lk lv5 7 = some (.int x4) → 0 ≤ F 17 → F 17 ≤ 16000 → k ≥ F 17 → HJ 285 136 lv5 [] h Q)
    (g1 : ∀ x10 : Int32, x10.toInt = k + 1 → ∀ lv10 : List (Nat × Value), m_lk lv10 0 = some (.ref m) → m_lk lv10 2 = some (.long lx2) → m_lk lv10 4 = some (.int lx4) → m_lk lv10 5 = some (.int lx5) → m_lk lv10 6 = some (.int x10) → 0 ≤ F 17 → F 17 ≤ 16000 → k < F 17 → (lg_cmp (G 42 (k).toNat) (Int64.ofNat (0 : Fin 2).val)).toInt ≠ 0 → (lg_cmp ((G 42 (k).toNat) &&& (lx2 ^^^ (-1))) (Int64.ofNat (0 : Fin 2).val)).toInt ≠ 0 → HJ 285 53 lv10 [] h Q)
    (g2 : ∀ h13 : MH, ∀ G13 : Nat → Nat → Int64, G13 = m_u G 50 (m_u (G 50) (F 49).toNat (G 42 (k).toNat)) → ∀ h17 : MH, ∀ F17 : Nat → Int, F17 = m_u F 49 ((F 49) + 1) → ∀ x18 : Int32, x18.toInt = k + 1 → ∀ lv18 : List (Nat × Value), MX 49 W ρ m A h0 h17 F17 V G13 → m_lk lv18 0 = some (.ref m) → m_lk lv18 2 = some (.long lx2) → m_lk lv18 4 = some (.int lx4) → m_lk lv18 5 = some (.int lx5) → m_lk lv18 6 = some (.int x18) → 0 ≤ F 17 → F 17 ≤ 16000 → k < F 17 → (lg_cmp (G 42 (k).toNat) (Int64.ofNat (0 : Fin 2).val)).toInt ≠ 0 → (lg_cmp ((G 42 (k).toNat) &&& (lx2 ^^^ (-1))) (Int64.ofNat (0 : Fin 2).val)).toInt = 0 → 0 ≤ F 49 → F 49 ≤ 1024 → HJ 285 53 lv18 [] h17 Q)
    (g3 : ∀ x19 : Int32, x19.toInt = u + 1 → ∀ x20 : Int32, x20.toInt = k + 1 → ∀ lv20 : List (Nat × Value), m_lk lv20 0 = some (.ref m) → m_lk lv20 2 = some (.long lx2) → m_lk lv20 4 = some (.int lx4) → m_lk lv20 5 = some (.int x19) → m_lk lv20 6 = some (.int x20) → 0 ≤ F 17 → F 17 ≤ 16000 → k < F 17 → (lg_cmp (G 42 (k).toNat) (Int64.ofNat (0 : Fin 2).val)).toInt = 0 → HJ 285 53 lv20 [] h Q)
    : HJ 285 53 lv [] h Q := by
  refine hI_il2 (k := 6) rfl e6 rfl ?_ -- 53
  refine hI_al (k := 0) rfl e0 rfl ?_ -- 55
  refine hM_gi M (by decide) rfl rfl rfl (k := 17) (c := 9) (lo := 0) (hi := 16000) rfl rfl rfl rfl rfl (fun x1 q1 a1 b1 => ?_) -- 56
  refine hM_cge (off := 71) (t := 130) rfl lq6 q1 (by decide) rfl (fun c59 => ?_) (fun c59 => ?_) -- 59
  · refine hM_ic (n := (-1)) rfl (by decide) rfl (fun x2 q2 => ?_) -- 130
    refine hM_si2 (k := 6) rfl (by decide +kernel) rfl (fun lv3 e3_6 u3 => ?_) -- 131
    have e3_0 := u3 0 _ (by decide) (Or.inl rfl) e0
    have e3_2 := u3 2 _ (by decide) (Or.inr (by decide)) e2
    have e3_4 := u3 4 _ (by decide) (Or.inl rfl) e4
    have e3_5 := u3 5 _ (by decide) (Or.inl rfl) e5
    refine hM_ic (n := 0) rfl (by decide) rfl (fun x4 q4 => ?_) -- 133
    refine hM_si2 (k := 7) rfl (by decide +kernel) rfl (fun lv5 e5_7 u5 => ?_) -- 134
    have e5_0 := u5 0 _ (by decide) (Or.inl rfl) e3_0
    have e5_2 := u5 2 _ (by decide) (Or.inr (by decide)) e3_2
    have e5_4 := u5 4 _ (by decide) (Or.inl rfl) e3_4
    have e5_5 := u5 5 _ (by decide) (Or.inl rfl) e3_5
    have e5_6 := u5 6 _ (by decide) (Or.inl rfl) e3_6
    exact g0 x2 q2 x4 q4 lv5 e5_0 e5_2 e5_4 e5_5 e5_6 e5_7 a1 b1 c59
  · refine hI_al (k := 0) rfl e0 rfl ?_ -- 62
    refine hM_ga M (by decide) rfl rfl (k := 42) (c := 9) rfl rfl rfl (by decide +kernel) rfl ?_ -- 63
    refine hI_il2 (k := 6) rfl e6 rfl ?_ -- 66
    refine hM_la M (by decide) (K := 42) (R2 := 77) (L := 16000) (H := 16000) rfl (by decide) rfl rfl rfl lq6 (by omega) (by omega) rfl ?_ -- 68
    refine hI_lc (n := 0) rfl rfl ?_ -- 69
    refine hM_lcmp rfl rfl (fun x7 q7 => ?_) -- 70
    refine hM_zne (off := 9) (t := 80) rfl q7 (by decide) rfl (fun c71 => ?_) (fun c71 => ?_) -- 71
    · refine hI_al (k := 0) rfl e0 rfl ?_ -- 80
      refine hM_ga M (by decide) rfl rfl (k := 42) (c := 9) rfl rfl rfl (by decide +kernel) rfl ?_ -- 81
      refine hI_il2 (k := 6) rfl e6 rfl ?_ -- 84
      refine hM_la M (by decide) (K := 42) (R2 := 77) (L := 16000) (H := 16000) rfl (by decide) rfl rfl rfl lq6 (by omega) (by omega) rfl ?_ -- 86
      refine hI_ll (k := 2) rfl e2 rfl ?_ -- 87
      refine hM_jc (x := (-1)) rfl rfl rfl ?_ -- 88
      refine hI_lxor rfl rfl ?_ -- 91
      refine hI_land rfl rfl ?_ -- 92
      refine hI_lc (n := 0) rfl rfl ?_ -- 93
      refine hM_lcmp rfl rfl (fun x9 q9 => ?_) -- 94
      refine hM_zne (off := 29) (t := 124) rfl q9 (by decide) rfl (fun c95 => ?_) (fun c95 => ?_) -- 95
      · refine hM_inc (k := 6) (z := 1) rfl e6 lq6 (by decide) (by omega) (by omega) (by decide +kernel) rfl (fun lv10 x10 q10 e10_6 u10 => ?_) -- 124
        have e10_0 := u10 0 _ (by decide) (Or.inl rfl) e0
        have e10_2 := u10 2 _ (by decide) (Or.inr (by decide)) e2
        have e10_4 := u10 4 _ (by decide) (Or.inl rfl) e4
        have e10_5 := u10 5 _ (by decide) (Or.inl rfl) e5
        refine hI_go (pc' := 53) (off := (-74)) rfl (by decide) ?_ -- 127
        exact g1 x10 q10 lv10 e10_0 e10_2 e10_4 e10_5 e10_6 a1 b1 c59 c71 c95
      · refine hI_al (k := 0) rfl e0 rfl ?_ -- 98
        refine hM_ga M (by decide) rfl rfl (k := 50) (c := 9) rfl rfl rfl (by decide +kernel) rfl ?_ -- 99
        refine hI_al (k := 0) rfl e0 rfl ?_ -- 102
        refine hM_gi M (by decide) rfl rfl rfl (k := 49) (c := 9) (lo := 0) (hi := 1024) rfl rfl rfl rfl rfl (fun x11 q11 a11 b11 => ?_) -- 103
        refine hI_al (k := 0) rfl e0 rfl ?_ -- 106
        refine hM_ga M (by decide) rfl rfl (k := 42) (c := 9) rfl rfl rfl (by decide +kernel) rfl ?_ -- 107
        refine hI_il2 (k := 6) rfl e6 rfl ?_ -- 110
        refine hM_la M (by decide) (K := 42) (R2 := 77) (L := 16000) (H := 16000) rfl (by decide) rfl rfl rfl lq6 (by omega) (by omega) rfl ?_ -- 112
        refine hM_ls M (by decide) ok_49 (K := 50) (R2 := 82) (L := 1024) (H := 1024) rfl (by decide) rfl rfl rfl (d_subm hw (by decide +kernel)) rfl q11 (by omega) (by omega) rfl (fun h13 G13 f13 M13 => ?_) -- 113
        refine hI_al (k := 0) rfl e0 rfl ?_ -- 114
        refine hI_dup rfl rfl rfl ?_ -- 115
        refine hM_gi M13 (by decide) rfl rfl rfl (k := 49) (c := 9) (lo := 0) (hi := 1024) rfl rfl rfl rfl rfl (fun x14 q14 a14 b14 => ?_) -- 116
        refine hM_ic (n := 1) rfl (by decide) rfl (fun x15 q15 => ?_) -- 119
        refine hM_add rfl q14 q15 (by omega) (by omega) rfl (fun x16 q16 => ?_) -- 120
        refine hM_pi M13 (by decide) ok_49 rfl rfl (k := 49) (c := 9) (lo := 0) (hi := 1024) rfl rfl ⟨by decide, by decide +kernel, rfl⟩ rfl (d_subm hw (by decide +kernel)) q16 (by omega) (by omega) rfl (fun h17 F17 f17 M17 => ?_) -- 121
        refine hM_inc (k := 6) (z := 1) rfl e6 lq6 (by decide) (by omega) (by omega) (by decide +kernel) rfl (fun lv18 x18 q18 e18_6 u18 => ?_) -- 124
        have e18_0 := u18 0 _ (by decide) (Or.inl rfl) e0
        have e18_2 := u18 2 _ (by decide) (Or.inr (by decide)) e2
        have e18_4 := u18 4 _ (by decide) (Or.inl rfl) e4
        have e18_5 := u18 5 _ (by decide) (Or.inl rfl) e5
        refine hI_go (pc' := 53) (off := (-74)) rfl (by decide) ?_ -- 127
        exact g2 h13 G13 f13 h17 F17 f17 x18 q18 lv18 M17 e18_0 e18_2 e18_4 e18_5 e18_6 a1 b1 c59 c71 c95 a11 b11
    · refine hM_inc (k := 5) (z := 1) rfl e5 lq5 (by decide) (by omega) (by omega) (by decide +kernel) rfl (fun lv19 x19 q19 e19_5 u19 => ?_) -- 74
      have e19_0 := u19 0 _ (by decide) (Or.inl rfl) e0
      have e19_2 := u19 2 _ (by decide) (Or.inr (by decide)) e2
      have e19_4 := u19 4 _ (by decide) (Or.inl rfl) e4
      have e19_6 := u19 6 _ (by decide) (Or.inl rfl) e6
      refine hI_go (pc' := 124) (off := 47) rfl (by decide) ?_ -- 77
      refine hM_inc (k := 6) (z := 1) rfl e19_6 lq6 (by decide) (by omega) (by omega) (by decide +kernel) rfl (fun lv20 x20 q20 e20_6 u20 => ?_) -- 124
      have e20_0 := u20 0 _ (by decide) (Or.inl rfl) e19_0
      have e20_2 := u20 2 _ (by decide) (Or.inr (by decide)) e19_2
      have e20_4 := u20 4 _ (by decide) (Or.inl rfl) e19_4
      have e20_5 := u20 5 _ (by decide) (Or.inl rfl) e19_5
      refine hI_go (pc' := 53) (off := (-74)) rfl (by decide) ?_ -- 127
      exact g3 x19 q19 x20 q20 lv20 e20_0 e20_2 e20_4 e20_5 e20_6 a1 b1 c59 c71
theorem s_fg136 {w u b i : Int} (M : MX 49 W ρ m A h0 h F V G) (e0 : m_lk lv 0 = some (.ref m)) {lx4 : Int32} (e4 : m_lk lv 4 = some (.int lx4)) (lq4 : lx4.toInt = w) {lx5 : Int32} (e5 : m_lk lv 5 = some (.int lx5)) (lq5 : lx5.toInt = u) {lx6 : Int32} (e6 : m_lk lv 6 = some (.int lx6)) (lq6 : lx6.toInt = b) {lx7 : Int32} (e7 : m_lk lv 7 = some (.int lx7)) (lq7 : lx7.toInt = i) (t0 : 0 ≤ (2 : Int) ^ (F 47).toNat) (t1 : (2 : Int) ^ (F 47).toNat ≤ 4096)
    (g0 : 0 ≤ F 47 → F 47 ≤ 12 → i ≥ (2 : Int) ^ (F 47).toNat → HJ 285 199 lv [] h Q)
    (g1 : 0 ≤ F 47 → F 47 ≤ 12 → i < (2 : Int) ^ (F 47).toNat → b = (-1) → HJ 251 0 (lv_args 0 [.ref m, .int lx7]) [] h (fun v h' => HJ 285 175 lv (v.toList ++ [.ref m, .int lx5]) h' Q))
    (g2 : 0 ≤ F 47 → F 47 ≤ 12 → i < (2 : Int) ^ (F 47).toNat → b ≠ (-1) → HJ 250 0 (lv_args 0 [.int lx7]) [] h (fun v h' => HJ 285 158 lv (v.toList ++ []) h' Q))
    : HJ 285 136 lv [] h Q := by
  refine hI_il2 (k := 7) rfl e7 rfl ?_ -- 136
  refine hM_ic (n := 1) rfl (by decide) rfl (fun x1 q1 => ?_) -- 138
  refine hI_al (k := 0) rfl e0 rfl ?_ -- 139
  refine hM_gi M (by decide) rfl rfl rfl (k := 47) (c := 9) (lo := 0) (hi := 12) rfl rfl rfl rfl rfl (fun x2 q2 a2 b2 => ?_) -- 140
  refine hM_shl rfl q1 q2 (by omega) (by omega) rfl (fun x3 q3 => ?_) -- 143
  refine hM_cge (off := 55) (t := 199) rfl lq7 q3 (by decide) rfl (fun c144 => ?_) (fun c144 => ?_) -- 144
  · exact g0 a2 b2 c144
  · refine hI_il2 (k := 6) rfl e6 rfl ?_ -- 147
    refine hM_ic (n := (-1)) rfl (by decide) rfl (fun x4 q4 => ?_) -- 149
    refine hM_ceq (off := 16) (t := 166) rfl lq6 q4 (by decide) rfl (fun c150 => ?_) (fun c150 => ?_) -- 150
    · refine hI_il2 (k := 5) rfl e5 rfl ?_ -- 166
      refine hI_al (k := 0) rfl e0 rfl ?_ -- 168
      refine hI_al (k := 0) rfl e0 rfl ?_ -- 169
      refine hI_il2 (k := 7) rfl e7 rfl ?_ -- 170
      refine hM_iv M (by decide) rfl rfl (by decide) (as := [.int lx7]) (r := [.ref m, .int lx5]) rfl rfl (by decide +kernel) rfl (by decide +kernel) rfl rfl rfl rfl rfl ?_ -- 172
      exact g1 a2 b2 c144 c150
    · refine hI_il2 (k := 7) rfl e7 rfl ?_ -- 153
      refine hM_is0 (as := [.int lx7]) (r := []) rfl rfl (by decide +kernel) rfl rfl rfl rfl rfl ?_ -- 155
      exact g2 a2 b2 c144 c150
theorem s_fg158 {w u b i y : Int} (M : MX 49 W ρ m A h0 h F V G) (e0 : m_lk lv 0 = some (.ref m)) {lx4 : Int32} (e4 : m_lk lv 4 = some (.int lx4)) (lq4 : lx4.toInt = w) {lx5 : Int32} (e5 : m_lk lv 5 = some (.int lx5)) (lq5 : lx5.toInt = u) {lx6 : Int32} (e6 : m_lk lv 6 = some (.int lx6)) (lq6 : lx6.toInt = b) {lx7 : Int32} (e7 : m_lk lv 7 = some (.int lx7)) (lq7 : lx7.toInt = i) {sx0 : Int32} (sq0 : sx0.toInt = y) 
    (g0 : HJ 250 0 (lv_args 0 [.int lx6]) [] h (fun v h' => HJ 285 163 lv (v.toList ++ [.int sx0]) h' Q))
    : HJ 285 158 lv [.int sx0] h Q := by
  refine hI_il2 (k := 6) rfl e6 rfl ?_ -- 158
  refine hM_is0 (as := [.int lx6]) (r := [.int sx0]) rfl rfl (by decide +kernel) rfl rfl rfl rfl rfl ?_ -- 160
  exact g0 
theorem s_fg163 {w u b i y z : Int} (M : MX 49 W ρ m A h0 h F V G) (e0 : m_lk lv 0 = some (.ref m)) {lx4 : Int32} (e4 : m_lk lv 4 = some (.int lx4)) (lq4 : lx4.toInt = w) {lx5 : Int32} (e5 : m_lk lv 5 = some (.int lx5)) (lq5 : lx5.toInt = u) {lx6 : Int32} (e6 : m_lk lv 6 = some (.int lx6)) (lq6 : lx6.toInt = b) {lx7 : Int32} (e7 : m_lk lv 7 = some (.int lx7)) (lq7 : lx7.toInt = i) {sx0 : Int32} (sq0 : sx0.toInt = y) {sx1 : Int32} (sq1 : sx1.toInt = z) 
    (g0 : ∀ lv1 : List (Nat × Value), m_lk lv1 0 = some (.ref m) → m_lk lv1 4 = some (.int lx4) → m_lk lv1 5 = some (.int lx5) → m_lk lv1 6 = some (.int lx6) → m_lk lv1 7 = some (.int lx7) → y ≥ z → HJ 285 193 lv1 [] h Q)
    (g1 : y < z → HJ 251 0 (lv_args 0 [.ref m, .int lx7]) [] h (fun v h' => HJ 285 175 lv (v.toList ++ [.ref m, .int lx5]) h' Q))
    : HJ 285 163 lv [.int sx1, .int sx0] h Q := by
  refine hM_cge (off := 26) (t := 189) rfl sq0 sq1 (by decide) rfl (fun c163 => ?_) (fun c163 => ?_) -- 163
  · refine hI_il2 (k := 6) rfl e6 rfl ?_ -- 189
    refine hM_si2 (k := 6) rfl (by decide +kernel) rfl (fun lv1 e1_6 u1 => ?_) -- 191
    have e1_0 := u1 0 _ (by decide) (Or.inl rfl) e0
    have e1_4 := u1 4 _ (by decide) (Or.inl rfl) e4
    have e1_5 := u1 5 _ (by decide) (Or.inl rfl) e5
    have e1_7 := u1 7 _ (by decide) (Or.inl rfl) e7
    exact g0 lv1 e1_0 e1_4 e1_5 e1_6 e1_7 c163
  · refine hI_il2 (k := 5) rfl e5 rfl ?_ -- 166
    refine hI_al (k := 0) rfl e0 rfl ?_ -- 168
    refine hI_al (k := 0) rfl e0 rfl ?_ -- 169
    refine hI_il2 (k := 7) rfl e7 rfl ?_ -- 170
    refine hM_iv M (by decide) rfl rfl (by decide) (as := [.int lx7]) (r := [.ref m, .int lx5]) rfl rfl (by decide +kernel) rfl (by decide +kernel) rfl rfl rfl rfl rfl ?_ -- 172
    exact g1 c163
theorem s_fg175 {w u b i : Int} (M : MX 49 W ρ m A h0 h F V G) (e0 : m_lk lv 0 = some (.ref m)) {lx4 : Int32} (e4 : m_lk lv 4 = some (.int lx4)) (lq4 : lx4.toInt = w) {lx5 : Int32} (e5 : m_lk lv 5 = some (.int lx5)) (lq5 : lx5.toInt = u) {lx6 : Int32} (e6 : m_lk lv 6 = some (.int lx6)) (lq6 : lx6.toInt = b) {lx7 : Int32} (e7 : m_lk lv 7 = some (.int lx7)) (lq7 : lx7.toInt = i) {sx0 : Int32} (sq0 : sx0.toInt = u) {sx2 : Int64} 
    (g0 : HJ 286 0 (lv_args 0 [.ref m, .long sx2]) [] h (fun v h' => HJ 285 178 lv (v.toList ++ [.int sx0]) h' Q))
    : HJ 285 175 lv [.long sx2, .ref m, .int sx0] h Q := by
  refine hM_iv M (by decide) rfl rfl (by decide) (as := [.long sx2]) (r := [.int sx0]) rfl rfl (by decide +kernel) rfl (by decide +kernel) rfl rfl rfl rfl rfl ?_ -- 175
  exact g0 
theorem s_fg178 {w u b i z : Int} (M : MX 49 W ρ m A h0 h F V G) (e0 : m_lk lv 0 = some (.ref m)) {lx4 : Int32} (e4 : m_lk lv 4 = some (.int lx4)) (lq4 : lx4.toInt = w) {lx5 : Int32} (e5 : m_lk lv 5 = some (.int lx5)) (lq5 : lx5.toInt = u) {lx6 : Int32} (e6 : m_lk lv 6 = some (.int lx6)) (lq6 : lx6.toInt = b) {lx7 : Int32} (e7 : m_lk lv 7 = some (.int lx7)) (lq7 : lx7.toInt = i) {sx0 : Int32} (sq0 : sx0.toInt = u) {sx1 : Int32} (sq1 : sx1.toInt = z) 
    (g0 : ∀ z1 : Int, -2147483648 ≤ z1 → z1 ≤ 2147483647 → ∀ lv2 : List (Nat × Value), m_lk lv2 0 = some (.ref m) → m_lk lv2 4 = some (.int lx4) → m_lk lv2 5 = some (.int lx5) → m_lk lv2 6 = some (.int lx6) → m_lk lv2 7 = some (.int lx7) → z1 < w → HJ 285 193 lv2 [] h Q)
    (g1 : ∀ z1 : Int, -2147483648 ≤ z1 → z1 ≤ 2147483647 → ∀ lv3 : List (Nat × Value), m_lk lv3 0 = some (.ref m) → m_lk lv3 4 = some (.int lx4) → m_lk lv3 5 = some (.int lx5) → m_lk lv3 6 = some (.int lx7) → m_lk lv3 7 = some (.int lx7) → z1 ≥ w → HJ 285 193 lv3 [] h Q)
    : HJ 285 178 lv [.int sx1, .int sx0] h Q := by
  refine hM_addw rfl rfl (fun x1 z1 q1 a1 b1 => ?_) -- 178
  refine hI_il2 (k := 4) rfl e4 rfl ?_ -- 179
  refine hM_clt (off := 8) (t := 189) rfl q1 lq4 (by decide) rfl (fun c181 => ?_) (fun c181 => ?_) -- 181
  · refine hI_il2 (k := 6) rfl e6 rfl ?_ -- 189
    refine hM_si2 (k := 6) rfl (by decide +kernel) rfl (fun lv2 e2_6 u2 => ?_) -- 191
    have e2_0 := u2 0 _ (by decide) (Or.inl rfl) e0
    have e2_4 := u2 4 _ (by decide) (Or.inl rfl) e4
    have e2_5 := u2 5 _ (by decide) (Or.inl rfl) e5
    have e2_7 := u2 7 _ (by decide) (Or.inl rfl) e7
    exact g0 z1 a1 b1 lv2 e2_0 e2_4 e2_5 e2_6 e2_7 c181
  · refine hI_il2 (k := 7) rfl e7 rfl ?_ -- 184
    refine hI_go (pc' := 191) (off := 5) rfl (by decide) ?_ -- 186
    refine hM_si2 (k := 6) rfl (by decide +kernel) rfl (fun lv3 e3_6 u3 => ?_) -- 191
    have e3_0 := u3 0 _ (by decide) (Or.inl rfl) e0
    have e3_4 := u3 4 _ (by decide) (Or.inl rfl) e4
    have e3_5 := u3 5 _ (by decide) (Or.inl rfl) e5
    have e3_7 := u3 7 _ (by decide) (Or.inl rfl) e7
    exact g1 z1 a1 b1 lv3 e3_0 e3_4 e3_5 e3_6 e3_7 c181
theorem s_fg193 {w u b i : Int} (M : MX 49 W ρ m A h0 h F V G) (e0 : m_lk lv 0 = some (.ref m)) {lx4 : Int32} (e4 : m_lk lv 4 = some (.int lx4)) (lq4 : lx4.toInt = w) {lx5 : Int32} (e5 : m_lk lv 5 = some (.int lx5)) (lq5 : lx5.toInt = u) {lx6 : Int32} (e6 : m_lk lv 6 = some (.int lx6)) (lq6 : lx6.toInt = b) {lx7 : Int32} (e7 : m_lk lv 7 = some (.int lx7)) (lq7 : lx7.toInt = i) (i0 : 0 ≤ i) (i1 : i ≤ 4096)
    (g0 : ∀ x1 : Int32, x1.toInt = i + 1 → ∀ lv1 : List (Nat × Value), m_lk lv1 0 = some (.ref m) → m_lk lv1 4 = some (.int lx4) → m_lk lv1 5 = some (.int lx5) → m_lk lv1 6 = some (.int lx6) → m_lk lv1 7 = some (.int x1) → HJ 285 136 lv1 [] h Q)
    : HJ 285 193 lv [] h Q := by
  refine hM_inc (k := 7) (z := 1) rfl e7 lq7 (by decide) (by omega) (by omega) (by decide +kernel) rfl (fun lv1 x1 q1 e1_7 u1 => ?_) -- 193
  have e1_0 := u1 0 _ (by decide) (Or.inl rfl) e0
  have e1_4 := u1 4 _ (by decide) (Or.inl rfl) e4
  have e1_5 := u1 5 _ (by decide) (Or.inl rfl) e5
  have e1_6 := u1 6 _ (by decide) (Or.inl rfl) e6
  refine hI_go (pc' := 136) (off := (-60)) rfl (by decide) ?_ -- 196
  exact g0 x1 q1 lv1 e1_0 e1_4 e1_5 e1_6 e1_7
theorem s_fg199 {b : Int} (M : MX 49 W ρ m A h0 h F V G) (e0 : m_lk lv 0 = some (.ref m)) {lx6 : Int32} (e6 : m_lk lv 6 = some (.int lx6)) (lq6 : lx6.toInt = b) 
    (g0 : b ≠ (-1) → HJ 251 0 (lv_args 0 [.ref m, .int lx6]) [] h (fun v h' => HJ 285 217 lv (v.toList ++ []) h' Q))
    (g1 : b = (-1) → Q (some (.long (-1))) h)
    : HJ 285 199 lv [] h Q := by
  refine hI_il2 (k := 6) rfl e6 rfl ?_ -- 199
  refine hM_ic (n := (-1)) rfl (by decide) rfl (fun x1 q1 => ?_) -- 201
  refine hM_cne (off := 9) (t := 211) rfl lq6 q1 (by decide) rfl (fun c202 => ?_) (fun c202 => ?_) -- 202
  · refine hI_al (k := 0) rfl e0 rfl ?_ -- 211
    refine hI_il2 (k := 6) rfl e6 rfl ?_ -- 212
    refine hM_iv M (by decide) rfl rfl (by decide) (as := [.int lx6]) (r := []) rfl rfl (by decide +kernel) rfl (by decide +kernel) rfl rfl rfl rfl rfl ?_ -- 214
    exact g0 c202
  · refine hM_jc (x := (-1)) rfl rfl rfl ?_ -- 205
    refine hI_go (pc' := 217) (off := 9) rfl (by decide) ?_ -- 208
    refine hI_rl rfl rfl ?_
    exact g1 c202
theorem s_fg217 (M : MX 49 W ρ m A h0 h F V G) {sx0 : Int64} 
    (g0 : Q (some (.long sx0)) h)
    : HJ 285 217 lv [.long sx0] h Q := by
  refine hI_rl rfl rfl ?_
  exact g0 
theorem l_fg53 {x : Int64} {n : Nat} {w : Int} {xw : Int32} (hw : d_sub [(82, 1001), (49, 49)] W = true) (qw : xw.toInt = w) (g : ∀ (lv : List (Nat × Value)) (h : MH) (F : Nat → Int) (G : Nat → Nat → Int64) (xu xb xi : Int32), MX 49 W ρ m A h0 h F V G → 0 ≤ F 47 → F 47 ≤ 12 → xi.toInt = 0 → m_lk lv 0 = some (.ref m) → m_lk lv 4 = some (.int xw) → m_lk lv 5 = some (.int xu) → m_lk lv 6 = some (.int xb) → m_lk lv 7 = some (.int xi) → HJ 285 136 lv [] h Q) : ∀ (d k u : Nat) (lv : List (Nat × Value)) (h : MH) (F : Nat → Int) (G : Nat → Nat → Int64) (xu xk : Int32), k + d = n → u ≤ k → MX 49 W ρ m A h0 h F V G → z_cv F G x n → F 49 ≤ z_hc (G 42) x k → xu.toInt = (u : Int) → xk.toInt = (k : Int) → m_lk lv 0 = some (.ref m) → m_lk lv 2 = some (.long x) → m_lk lv 4 = some (.int xw) → m_lk lv 5 = some (.int xu) → m_lk lv 6 = some (.int xk) → HJ 285 53 lv [] h Q := by
  intro d
  induction d with
  | zero =>
    intro k u lv h F G xu xk hd hu M I c qu hk e0 e2 e4 e5 e6
    have kn : k = n := by omega
    subst kn
    obtain ⟨i1, i2, i3, i4, i5⟩ := I
    exact s_fg53 M e0 e2 e4 qw e5 qu e6 hk (by omega) (by omega) (by omega) (by omega) (by omega) hw (fun x2 q2 x4 q4 lv5 d0 d2 d4 d5 d6 d7 _ _ _ => g lv5 h F G xu x2 x4 M i4 i5 q4 d0 d4 d5 d6 d7) (fun x10 q10 lv10 _ _ _ _ _ _ _ c _ _ => by omega) (fun h13 G13 f13 h17 F17 f17 x18 q18 lv18 M17 _ _ _ _ _ _ _ c _ _ _ _ => by omega) (fun x19 q19 x20 q20 lv20 _ _ _ _ _ _ _ c _ => by omega)
  | succ d ih =>
    intro k u lv h F G xu xk hd hu M I c qu hk e0 e2 e4 e5 e6
    have I' := I
    obtain ⟨i1, i2, i3, i4, i5⟩ := I'
    have mono := z_hcM (H := G 42) (x := x) (k := k) (n := n) (by omega)
    have up : z_hc (G 42) x k ≤ z_hc (G 42) x (k + 1) := z_hcM (by omega)
    refine s_fg53 M e0 e2 e4 qw e5 qu e6 hk (by omega) (by omega) (by omega) (by omega) (by omega) hw (fun x2 q2 x4 q4 lv5 d0 d2 d4 d5 d6 d7 _ _ _ => by omega) (fun x10 q10 lv10 d0 d2 d4 d5 d6 _ _ _ _ _ => ih (k + 1) u lv10 h F G xu x10 (by omega) (by omega) M I (by omega) qu (by omega) d0 d2 d4 d5 d6) (fun h13 G13 f13 h17 F17 f17 x18 q18 lv18 M17 d0 d2 d4 d5 d6 _ _ _ c71 c95 _ _ => ?_) (fun x19 q19 x20 q20 lv20 d0 d2 d4 d5 d6 _ _ _ _ => ih (k + 1) (u + 1) lv20 h F G x19 x20 (by omega) (by omega) M I (by omega) (by omega) (by omega) d0 d2 d4 d5 d6)
    rw [Int.toNat_natCast] at c71 c95
    have e : ¬ G 42 k &&& x = 0 := z_not (fun y => c71 (lg_0.mpr y)) (lg_0.mp c95)
    have g42 : G13 42 = G 42 := by rw [f13, m_uN _ _ _ _ (by decide)]
    refine ih (k + 1) u lv18 h17 F17 G13 xu x18 (by omega) (by omega) M17 ⟨by rw [f17, m_uN _ _ _ _ (by decide), i1], i2, by rw [g42]; exact i3, by rw [f17, m_uN _ _ _ _ (by decide)]; exact i4, by rw [f17, m_uN _ _ _ _ (by decide)]; exact i5⟩ ?_ qu (by omega) d0 d2 d4 d5 d6
    rw [f17, m_uE, g42, z_hc, if_neg e]
    omega
theorem l_fg136 {w : Int} {xw xu : Int32} (M : MX 49 W ρ m A h0 h F V G) (qw : xw.toInt = w) (s0 : 0 ≤ F 47) (s12 : F 47 ≤ 12) (g : ∀ z : Int64, Q (some (.long z)) h) : ∀ (d i : Nat) (lv : List (Nat × Value)) (xb xi : Int32), i + d = 4096 → xi.toInt = (i : Int) → m_lk lv 0 = some (.ref m) → m_lk lv 4 = some (.int xw) → m_lk lv 5 = some (.int xu) → m_lk lv 6 = some (.int xb) → m_lk lv 7 = some (.int xi) → HJ 285 136 lv [] h Q := by
  have p := z_p2 s0 s12
  have fin : ∀ (lv : List (Nat × Value)) (xb : Int32), m_lk lv 0 = some (.ref m) → m_lk lv 6 = some (.int xb) → HJ 285 199 lv [] h Q := fun lv xb e0 e6 => s_fg199 M e0 e6 rfl (fun _ => c_setOf M (fun z => s_fg217 M (g z))) (fun _ => g _)
  intro d
  induction d with
  | zero =>
    intro i lv xb xi hd hi e0 e4 e5 e6 e7
    exact s_fg136 M e0 e4 qw e5 rfl e6 rfl e7 hi p.1 p.2 (fun _ _ _ => fin lv xb e0 e6) (fun _ _ c _ => by omega) (fun _ _ c _ => by omega)
  | succ d ih =>
    intro i lv xb xi hd hi e0 e4 e5 e6 e7
    have nx : ∀ (lv : List (Nat × Value)) (xb : Int32), m_lk lv 0 = some (.ref m) → m_lk lv 4 = some (.int xw) → m_lk lv 5 = some (.int xu) → m_lk lv 6 = some (.int xb) → m_lk lv 7 = some (.int xi) → HJ 285 193 lv [] h Q := fun lv xb e0 e4 e5 e6 e7 => s_fg193 M e0 e4 qw e5 rfl e6 rfl e7 hi (by omega) (by omega) (fun x1 q1 lv1 d0 d4 d5 d6 d7 => ih (i + 1) lv1 xb x1 (by omega) (by omega) d0 d4 d5 d6 d7)
    have cov : HJ 251 0 (lv_args 0 [.ref m, .int xi]) [] h (fun v h' => HJ 285 175 lv (v.toList ++ [.ref m, .int xu]) h' Q) := c_setOf M (fun z => s_fg175 M e0 e4 qw e5 rfl e6 rfl e7 hi rfl (c_lostBy M (fun y => s_fg178 (z := y.toInt) M e0 e4 qw e5 rfl e6 rfl e7 hi rfl rfl (fun _ _ _ lv1 d0 d4 d5 d6 d7 _ => nx lv1 xb d0 d4 d5 d6 d7) (fun _ _ _ lv2 d0 d4 d5 d6 d7 _ => nx lv2 xi d0 d4 d5 d6 d7))))
    exact s_fg136 M e0 e4 qw e5 rfl e6 rfl e7 hi p.1 p.2 (fun _ _ _ => fin lv xb e0 e6) (fun _ _ _ _ => cov) (fun _ _ _ _ => c_bitsOf M (fun y => s_fg158 (y := y.toInt) M e0 e4 qw e5 rfl e6 rfl e7 hi rfl (c_bitsOf M (fun z => s_fg163 (y := y.toInt) (z := z.toInt) M e0 e4 qw e5 rfl e6 rfl e7 hi rfl rfl (fun lv1 d0 d4 d5 d6 d7 _ => nx lv1 xb d0 d4 d5 d6 d7) (fun _ => cov)))))
theorem c_forget {r w : Int} {x : Int64} {xr xw : Int32} (M : MX 49 W ρ m A h0 h F V G) (b0_ : m_lk lv 0 = some (.ref m)) (b1_ : m_lk lv 1 = some (.int xr)) (b2_ : m_lk lv 2 = some (.long x)) (b4_ : m_lk lv 4 = some (.int xw)) (hw : d_sub g_cvr W = true) (qr : xr.toInt = r) (qw : xw.toInt = w) (rw_ : p_rw (V 6)) (g : ∀ (x : Int64) (h' : MH) (F' : Nat → Int) (V' : Nat → Nat → Int) (G' : Nat → Nat → Int64), MX 49 W ρ m A h0 h' F' V' G' → Q (some (.long x)) h') : HJ 285 0 lv [] h Q := by
  have w0 : d_sub [(49, 0)] W = true := d_subm hw (by decide +kernel)
  have w1 : d_sub g_la W = true := d_subm hw (by decide +kernel)
  have w2 : d_sub g_lsW W = true := d_subm hw (by decide +kernel)
  have w3 : d_sub g_hd W = true := d_subm hw (by decide +kernel)
  have w4 : d_sub [(82, 1001), (49, 49)] W = true := d_subm hw (by decide +kernel)
  have w5 : d_sub [(49, 49)] W = true := d_subm hw (by decide +kernel)
  refine s_fg0 M b0_ b1_ qr b2_ b4_ qw w0 (fun h2 F2 f2 M2 => ?_)
  refine c_lay M2 rfl rfl w1 qr rw_ (fun z h3 F3 V3 G3 M3 hz0 => ?_)
  have hz : z.toInt = 0 ∨ (z.toInt = 1 ∧ g_ly F3 V3 40) := hz0.imp (fun q => q.1) (fun q => ⟨q.1, q.2.1⟩)
  refine s_fg10 (z := z.toInt) M3 b0_ b1_ qr b2_ b4_ qw rfl (fun _ => g _ h3 F3 V3 G3 M3) (fun c10 => ?_)
  obtain ⟨-, ⟨⟨i1, i2, i3⟩, i4, i5, i6⟩⟩ := hz.resolve_left c10
  refine c_are M3 (fun z2 _ _ => ?_)
  refine s_fg18 (z := z2.toInt) M3 b0_ b1_ qr b2_ b4_ qw rfl (fun _ => g _ h3 F3 V3 G3 M3) (fun _ => ?_)
  refine c_list2 M3 w2 (by omega) (by omega) (fun z3 h4 F4 V4 z30 z31 M4 fo vo cb => ?_)
  have f35 := fo 35 (by decide)
  have f17 := fo 17 (by decide)
  refine s_fg26 (z := z3.toInt) M4 b0_ b1_ qr b2_ b4_ qw rfl (fun _ => g _ h4 F4 V4 G3 M4) (fun c26 _ => ?_) (fun _ _ => g _ h4 F4 V4 G3 M4)
  refine c_hold M4 w3 (by omega) (by omega) (by omega) (by omega) (by rw [f17, vo 22 (by decide), vo 23 (by decide)]; exact i1) (by rw [f17, f35, vo 22 (by decide), vo 36 (by decide)]; exact i3) (fun h5 F5 V5 G5 M5 I5 hc => ?_)
  have c12 := cb (by omega)
  have h5c := hc x
  rw [f35] at h5c
  have b47 := M5.fi (by decide) (k := 47) (lo := 0) (hi := 12) rfl rfl rfl
  have g17 := I5.1 17 (by decide)
  refine s_fg42 M5 b0_ b1_ qr b2_ b4_ qw w5 (fun x1 q1 h6 F6 f6 x5 q5 lv4 M6 e0 e2 e4 e5 e6 => ?_)
  have k17 : F6 17 = F5 17 := by rw [f6, m_uN _ _ _ _ (by decide)]
  have k47 : F6 47 = F5 47 := by rw [f6, m_uN _ _ _ _ (by decide)]
  refine l_fg53 (x := x) (n := (F4 17).toNat) w4 qw (fun lv7 h7 F7 G7 xu xb xi M7 s0 s12 q7 d0 d4 d5 d6 d7 => ?_) (F4 17).toNat 0 0 lv4 h6 F6 G5 x1 x5 (by omega) (by omega) M6 ⟨by omega, by omega, by omega, by omega, by omega⟩ (by rw [f6, m_uE]; exact Int.le_refl _) q1 q5 e0 e2 e4 e5 e6
  exact l_fg136 M7 qw s0 s12 (fun z => g z h7 F7 V5 G7 M7) 4096 0 lv7 xb xi rfl q7 d0 d4 d5 d6 d7
end
end
section
-- DIFFER
section
variable {lv : List (Nat × Value)} {Q : Option Value → MH → Prop} {W : List (Nat × Nat)} {ρ : Nat → Nat} {m : Nat} {A : Nat → Nat} {h0 h : MH} {F : Nat → Int} {V : Nat → Nat → Int} {G : Nat → Nat → Int64}
theorem s_l20 {r a b : Int} (M : MX 49 W ρ m A h0 h F V G) (e0 : m_lk lv 0 = some (.ref m)) {lx1 : Int32} (e1 : m_lk lv 1 = some (.int lx1)) (lq1 : lx1.toInt = r) {lx2 : Int32} (e2 : m_lk lv 2 = some (.int lx2)) (lq2 : lx2.toInt = a) {lx3 : Int32} (e3 : m_lk lv 3 = some (.int lx3)) (lq3 : lx3.toInt = b) 
    (g0 : HJ 201 0 (lv_args 0 [.ref m, .int lx1]) [] h (fun v h' => HJ 240 5 lv (v.toList ++ []) h' Q))
    : HJ 240 0 lv [] h Q := by
  refine hI_al (k := 0) rfl e0 rfl ?_ -- 0
  refine hI_il (k := 1) rfl e1 rfl ?_ -- 1
  refine hM_iv M (by decide) rfl rfl (by decide) (as := [.int lx1]) (r := []) rfl rfl (by decide +kernel) rfl (by decide +kernel) rfl rfl rfl rfl rfl ?_ -- 2
  exact g0 
theorem s_l25 {r a b z : Int} (M : MX 49 W ρ m A h0 h F V G) (e0 : m_lk lv 0 = some (.ref m)) {lx1 : Int32} (e1 : m_lk lv 1 = some (.int lx1)) (lq1 : lx1.toInt = r) {lx2 : Int32} (e2 : m_lk lv 2 = some (.int lx2)) (lq2 : lx2.toInt = a) {lx3 : Int32} (e3 : m_lk lv 3 = some (.int lx3)) (lq3 : lx3.toInt = b) {sx0 : Int32} (sq0 : sx0.toInt = z) 
    (g0 : ∀ x1 : Int32, x1.toInt = 0 → z = 0 → Q (some (.int x1)) h)
    (g1 : z ≠ 0 → HJ 205 0 (lv_args 0 [.ref m, .int lx2]) [] h (fun v h' => HJ 240 13 lv (v.toList ++ []) h' Q))
    : HJ 240 5 lv [.int sx0] h Q := by
  refine hM_zeq (off := 23) (t := 28) rfl sq0 (by decide) rfl (fun c5 => ?_) (fun c5 => ?_) -- 5
  · refine hM_ic (n := 0) rfl (by decide) rfl (fun x1 q1 => ?_) -- 28
    refine hM_rb rfl rfl q1 (by omega) (by omega) ?_ -- 29
    exact g0 x1 q1 c5
  · refine hI_al (k := 0) rfl e0 rfl ?_ -- 8
    refine hI_il (k := 2) rfl e2 rfl ?_ -- 9
    refine hM_iv M (by decide) rfl rfl (by decide) (as := [.int lx2]) (r := []) rfl rfl (by decide +kernel) rfl (by decide +kernel) rfl rfl rfl rfl rfl ?_ -- 10
    exact g1 c5
theorem s_l213 {r a b z : Int} (M : MX 49 W ρ m A h0 h F V G) (e0 : m_lk lv 0 = some (.ref m)) {lx1 : Int32} (e1 : m_lk lv 1 = some (.int lx1)) (lq1 : lx1.toInt = r) {lx2 : Int32} (e2 : m_lk lv 2 = some (.int lx2)) (lq2 : lx2.toInt = a) {lx3 : Int32} (e3 : m_lk lv 3 = some (.int lx3)) (lq3 : lx3.toInt = b) {sx0 : Int32} (sq0 : sx0.toInt = z) 
    (g0 : ∀ x1 : Int32, x1.toInt = 0 → z = 0 → Q (some (.int x1)) h)
    (g1 : z ≠ 0 → HJ 205 0 (lv_args 0 [.ref m, .int lx3]) [] h (fun v h' => HJ 240 21 lv (v.toList ++ []) h' Q))
    : HJ 240 13 lv [.int sx0] h Q := by
  refine hM_zeq (off := 15) (t := 28) rfl sq0 (by decide) rfl (fun c13 => ?_) (fun c13 => ?_) -- 13
  · refine hM_ic (n := 0) rfl (by decide) rfl (fun x1 q1 => ?_) -- 28
    refine hM_rb rfl rfl q1 (by omega) (by omega) ?_ -- 29
    exact g0 x1 q1 c13
  · refine hI_al (k := 0) rfl e0 rfl ?_ -- 16
    refine hI_il (k := 3) rfl e3 rfl ?_ -- 17
    refine hM_iv M (by decide) rfl rfl (by decide) (as := [.int lx3]) (r := []) rfl rfl (by decide +kernel) rfl (by decide +kernel) rfl rfl rfl rfl rfl ?_ -- 18
    exact g1 c13
theorem s_l221 {z : Int} (M : MX 49 W ρ m A h0 h F V G) {sx0 : Int32} (sq0 : sx0.toInt = z) 
    (g0 : ∀ x1 : Int32, x1.toInt = 0 → z = 0 → Q (some (.int x1)) h)
    (g1 : ∀ x2 : Int32, x2.toInt = 1 → z ≠ 0 → Q (some (.int x2)) h)
    : HJ 240 21 lv [.int sx0] h Q := by
  refine hM_zeq (off := 7) (t := 28) rfl sq0 (by decide) rfl (fun c21 => ?_) (fun c21 => ?_) -- 21
  · refine hM_ic (n := 0) rfl (by decide) rfl (fun x1 q1 => ?_) -- 28
    refine hM_rb rfl rfl q1 (by omega) (by omega) ?_ -- 29
    exact g0 x1 q1 c21
  · refine hM_ic (n := 1) rfl (by decide) rfl (fun x2 q2 => ?_) -- 24
    refine hI_go (pc' := 29) (off := 4) rfl (by decide) ?_ -- 25
    refine hM_rb rfl rfl q2 (by omega) (by omega) ?_ -- 29
    exact g1 x2 q2 c21
theorem c_layTwo {r a b : Int} {xr xa xb : Int32} (M : MX 49 W ρ m A h0 h F V G) (hw : d_sub g_la W = true) (qr : xr.toInt = r) (qa : xa.toInt = a) (qb : xb.toInt = b) (rw_ : p_rw (V 6)) (g : ∀ (x : Int32) (h' : MH) (F' : Nat → Int) (V' : Nat → Nat → Int) (G' : Nat → Nat → Int64), MX 49 W ρ m A h0 h' F' V' G' → (x.toInt = 0 ∨ (x.toInt = 1 ∧ g_ly F' V' 40 ∧ (0 ≤ a ∧ a < F' 35) ∧ (0 ≤ b ∧ b < F' 35))) → Q (some (.int x)) h') : HJ 240 0 (lv_args 0 [.ref m, .int xr, .int xa, .int xb]) [] h Q := by
  refine s_l20 M rfl rfl qr rfl qa rfl qb (c_lay M rfl rfl hw qr rw_ (fun z h2 F2 V2 G2 M2 hz0 => ?_))
  have hz : z.toInt = 0 ∨ (z.toInt = 1 ∧ g_ly F2 V2 40) := hz0.imp (fun q => q.1) (fun q => ⟨q.1, q.2.1⟩)
  refine s_l25 (z := z.toInt) M2 rfl rfl qr rfl qa rfl qb rfl (fun x q _ => g x h2 F2 V2 G2 M2 (Or.inl q)) (fun c5 => ?_)
  obtain ⟨-, I⟩ := hz.resolve_left c5
  refine c_isV M2 qa (fun z2 hz2 => ?_)
  refine s_l213 (z := z2.toInt) M2 rfl rfl qr rfl qa rfl qb rfl (fun x q _ => g x h2 F2 V2 G2 M2 (Or.inl q)) (fun c13 => ?_)
  obtain ⟨-, a0, a1⟩ := hz2.resolve_right (fun y => c13 y.1)
  refine c_isV M2 qb (fun z3 hz3 => ?_)
  refine s_l221 (z := z3.toInt) M2 rfl (fun x q _ => g x h2 F2 V2 G2 M2 (Or.inl q)) (fun x q c21 => g x h2 F2 V2 G2 M2 (Or.inr ⟨q, I, ⟨a0, a1⟩, ?_⟩))
  obtain ⟨-, b0, b1⟩ := hz3.resolve_right (fun y => c21 y.1)
  exact ⟨b0, b1⟩
theorem s_sa0 {v : Int} (M : MX 49 W ρ m A h0 h F V G) (e0 : m_lk lv 0 = some (.ref m)) {lx1 : Int32} (e1 : m_lk lv 1 = some (.int lx1)) (lq1 : lx1.toInt = v) 
    (g0 : HJ 208 0 (lv_args 0 [.ref m, .int lx1]) [] h (fun v h' => HJ 230 5 lv (v.toList ++ []) h' Q))
    : HJ 230 0 lv [] h Q := by
  refine hI_al (k := 0) rfl e0 rfl ?_ -- 0
  refine hI_il (k := 1) rfl e1 rfl ?_ -- 1
  refine hM_iv M (by decide) rfl rfl (by decide) (as := [.int lx1]) (r := []) rfl rfl (by decide +kernel) rfl (by decide +kernel) rfl rfl rfl rfl rfl ?_ -- 2
  exact g0 
theorem s_sa5 (M : MX 49 W ρ m A h0 h F V G) (e0 : m_lk lv 0 = some (.ref m)) 
    (g0 : HJ 219 0 (lv_args 0 [.ref m]) [] h (fun v h' => HJ 230 9 lv (v.toList ++ []) h' Q))
    : HJ 230 5 lv [] h Q := by
  refine hI_al (k := 0) rfl e0 rfl ?_ -- 5
  refine hM_iv M (by decide) rfl rfl (by decide) (as := []) (r := []) rfl rfl (by decide +kernel) rfl (by decide +kernel) rfl rfl rfl rfl rfl ?_ -- 6
  exact g0 
theorem s_sa9 (M : MX 49 W ρ m A h0 h F V G) (e0 : m_lk lv 0 = some (.ref m)) (hw : d_sub [(49, 43)] W = true)
    (g0 : ∀ h2 : MH, ∀ F2 : Nat → Int, F2 = m_u F 43 (0) → ∀ x3 : Int32, x3.toInt = 0 → ∀ lv4 : List (Nat × Value), MX 49 W ρ m A h0 h2 F2 V G → m_lk lv4 0 = some (.ref m) → m_lk lv4 2 = some (.int x3) → HJ 230 16 lv4 [] h2 Q)
    : HJ 230 9 lv [] h Q := by
  refine hI_al (k := 0) rfl e0 rfl ?_ -- 9
  refine hM_ic (n := 0) rfl (by decide) rfl (fun x1 q1 => ?_) -- 10
  refine hM_pi M (by decide) ok_49 rfl rfl (k := 43) (c := 9) (lo := 0) (hi := 63) rfl rfl ⟨by decide, by decide +kernel, rfl⟩ rfl (d_subm hw (by decide +kernel)) q1 (by omega) (by omega) rfl (fun h2 F2 f2 M2 => ?_) -- 11
  refine hM_ic (n := 0) rfl (by decide) rfl (fun x3 q3 => ?_) -- 14
  refine hM_si (k := 2) rfl (by decide +kernel) rfl (fun lv4 e4_2 u4 => ?_) -- 15
  have e4_0 := u4 0 _ (by decide) (Or.inl rfl) e0
  exact g0 h2 F2 f2 x3 q3 lv4 M2 e4_0 e4_2
theorem s_sa16 {i : Int} (M : MX 49 W ρ m A h0 h F V G) (e0 : m_lk lv 0 = some (.ref m)) {lx2 : Int32} (e2 : m_lk lv 2 = some (.int lx2)) (lq2 : lx2.toInt = i) (i0 : 0 ≤ i) (w1 : F 26 ≤ 63)
    (g0 : 0 ≤ F 26 → F 26 ≤ 63 → i ≥ F 26 → Q none h)
    (g1 : ∀ x3 : Int32, x3.toInt = V 20 (V 27 (i).toNat).toNat → ∀ x6 : Int32, x6.toInt = V 21 (V 27 (i).toNat).toNat → ∀ x8 : Int32, x8.toInt = F 43 → ∀ lv9 : List (Nat × Value), m_lk lv9 0 = some (.ref m) → m_lk lv9 2 = some (.int lx2) → m_lk lv9 3 = some (.int x3) → m_lk lv9 4 = some (.int x6) → m_lk lv9 5 = some (.int x8) → 0 ≤ F 26 → F 26 ≤ 63 → i < F 26 → 0 ≤ V 27 (i).toNat → V 27 (i).toNat ≤ 15999 → 0 ≤ F 43 → F 43 ≤ 63 → HJ 230 55 lv9 [] h Q)
    : HJ 230 16 lv [] h Q := by
  refine hI_il (k := 2) rfl e2 rfl ?_ -- 16
  refine hI_al (k := 0) rfl e0 rfl ?_ -- 17
  refine hM_gi M (by decide) rfl rfl rfl (k := 26) (c := 9) (lo := 0) (hi := 63) rfl rfl rfl rfl rfl (fun x1 q1 a1 b1 => ?_) -- 18
  refine hM_cge (off := 151) (t := 172) rfl lq2 q1 (by decide) rfl (fun c21 => ?_) (fun c21 => ?_) -- 21
  · refine hI_rv rfl rfl ?_
    exact g0 a1 b1 c21
  · refine hI_al (k := 0) rfl e0 rfl ?_ -- 24
    refine hM_ga M (by decide) rfl rfl (k := 20) (c := 9) rfl rfl rfl (by decide +kernel) rfl ?_ -- 25
    refine hI_al (k := 0) rfl e0 rfl ?_ -- 28
    refine hM_ga M (by decide) rfl rfl (k := 27) (c := 9) rfl rfl rfl (by decide +kernel) rfl ?_ -- 29
    refine hI_il (k := 2) rfl e2 rfl ?_ -- 32
    refine hM_ia M (by decide) (K := 27) (R2 := 63) (L := 64) (H := 64) (lo := 0) (hi := 15999) rfl (by decide) rfl rfl (fun _ => rfl) rfl lq2 (by omega) (by omega) rfl (fun x2 q2 a2 b2 => ?_) -- 33
    refine hM_ba M (by decide) (K := 20) (R2 := 57) (L := 16000) (H := 16000) (lo := (-2147483648)) (hi := 2147483647) rfl (by decide) rfl rfl (Or.inl rfl) (fun _ => rfl) rfl q2 (by omega) (by omega) rfl (fun x3 q3 a3 b3 => ?_) -- 34
    refine hM_si (k := 3) rfl (by decide +kernel) rfl (fun lv4 e4_3 u4 => ?_) -- 35
    have e4_0 := u4 0 _ (by decide) (Or.inl rfl) e0
    have e4_2 := u4 2 _ (by decide) (Or.inl rfl) e2
    refine hI_al (k := 0) rfl e4_0 rfl ?_ -- 36
    refine hM_ga M (by decide) rfl rfl (k := 21) (c := 9) rfl rfl rfl (by decide +kernel) rfl ?_ -- 37
    refine hI_al (k := 0) rfl e4_0 rfl ?_ -- 40
    refine hM_ga M (by decide) rfl rfl (k := 27) (c := 9) rfl rfl rfl (by decide +kernel) rfl ?_ -- 41
    refine hI_il (k := 2) rfl e4_2 rfl ?_ -- 44
    refine hM_ia M (by decide) (K := 27) (R2 := 63) (L := 64) (H := 64) (lo := 0) (hi := 15999) rfl (by decide) rfl rfl (fun _ => rfl) rfl lq2 (by omega) (by omega) rfl (fun x5 q5 a5 b5 => ?_) -- 45
    refine hM_ba M (by decide) (K := 21) (R2 := 58) (L := 16000) (H := 16000) (lo := (-2147483648)) (hi := 2147483647) rfl (by decide) rfl rfl (Or.inl rfl) (fun _ => rfl) rfl q5 (by omega) (by omega) rfl (fun x6 q6 a6 b6 => ?_) -- 46
    refine hM_si2 (k := 4) rfl (by decide +kernel) rfl (fun lv7 e7_4 u7 => ?_) -- 47
    have e7_0 := u7 0 _ (by decide) (Or.inl rfl) e4_0
    have e7_2 := u7 2 _ (by decide) (Or.inl rfl) e4_2
    have e7_3 := u7 3 _ (by decide) (Or.inl rfl) e4_3
    refine hI_al (k := 0) rfl e7_0 rfl ?_ -- 49
    refine hM_gi M (by decide) rfl rfl rfl (k := 43) (c := 9) (lo := 0) (hi := 63) rfl rfl rfl rfl rfl (fun x8 q8 a8 b8 => ?_) -- 50
    refine hM_si2 (k := 5) rfl (by decide +kernel) rfl (fun lv9 e9_5 u9 => ?_) -- 53
    have e9_0 := u9 0 _ (by decide) (Or.inl rfl) e7_0
    have e9_2 := u9 2 _ (by decide) (Or.inl rfl) e7_2
    have e9_3 := u9 3 _ (by decide) (Or.inl rfl) e7_3
    have e9_4 := u9 4 _ (by decide) (Or.inl rfl) e7_4
    exact g1 x3 q3 x6 q6 x8 q8 lv9 e9_0 e9_2 e9_3 e9_4 e9_5 a1 b1 c21 a2 b2 a8 b8
theorem s_sa55 {i t k j : Int} (M : MX 49 W ρ m A h0 h F V G) (e0 : m_lk lv 0 = some (.ref m)) {lx2 : Int32} (e2 : m_lk lv 2 = some (.int lx2)) (lq2 : lx2.toInt = i) {lx3 : Int32} (e3 : m_lk lv 3 = some (.int lx3)) (lq3 : lx3.toInt = t) {lx4 : Int32} (e4 : m_lk lv 4 = some (.int lx4)) (lq4 : lx4.toInt = k) {lx5 : Int32} (e5 : m_lk lv 5 = some (.int lx5)) (lq5 : lx5.toInt = j) (i0 : 0 ≤ i) (i1 : i ≤ 62) (j0 : 0 ≤ j) (j1 : j ≤ 62) (f0 : 0 ≤ F 43) (f1 : F 43 ≤ 62) (tT : -2147483648 ≤ t ∧ t ≤ 2147483647) (kT : -2147483648 ≤ k ∧ k ≤ 2147483647)(hw : d_sub [(78, 1001), (79, 1001), (49, 43)] W = true)
    (g0 : ∀ h1 : MH, ∀ V1 : Nat → Nat → Int, V1 = m_u V 44 (m_u (V 44) (j).toNat (t)) → ∀ h2 : MH, ∀ V2 : Nat → Nat → Int, V2 = m_u V1 45 (m_u (V1 45) (j).toNat (k)) → ∀ h6 : MH, ∀ F6 : Nat → Int, F6 = m_u F 43 ((F 43) + 1) → ∀ x7 : Int32, x7.toInt = i + 1 → ∀ lv7 : List (Nat × Value), MX 49 W ρ m A h0 h6 F6 V2 G → m_lk lv7 0 = some (.ref m) → m_lk lv7 2 = some (.int x7) → m_lk lv7 3 = some (.int lx3) → m_lk lv7 4 = some (.int lx4) → m_lk lv7 5 = some (.int lx5) → j ≤ 0 → 0 ≤ F 43 → F 43 ≤ 63 → HJ 230 16 lv7 [] h6 Q)
    (g1 : ∀ h14 : MH, ∀ V14 : Nat → Nat → Int, V14 = m_u V 44 (m_u (V 44) (j).toNat (V 44 (j - 1).toNat)) → ∀ h18 : MH, ∀ V18 : Nat → Nat → Int, V18 = m_u V14 45 (m_u (V14 45) (j).toNat (V 45 (j - 1).toNat)) → ∀ x19 : Int32, x19.toInt = j + (-1) → ∀ lv19 : List (Nat × Value), MX 49 W ρ m A h0 h18 F V18 G → m_lk lv19 0 = some (.ref m) → m_lk lv19 2 = some (.int lx2) → m_lk lv19 3 = some (.int lx3) → m_lk lv19 4 = some (.int lx4) → m_lk lv19 5 = some (.int x19) → j > 0 → k < V 45 (j - 1).toNat → HJ 230 55 lv19 [] h18 Q)
    (g2 : ∀ h23 : MH, ∀ V23 : Nat → Nat → Int, V23 = m_u V 44 (m_u (V 44) (j).toNat (t)) → ∀ h24 : MH, ∀ V24 : Nat → Nat → Int, V24 = m_u V23 45 (m_u (V23 45) (j).toNat (k)) → ∀ h28 : MH, ∀ F28 : Nat → Int, F28 = m_u F 43 ((F 43) + 1) → ∀ x29 : Int32, x29.toInt = i + 1 → ∀ lv29 : List (Nat × Value), MX 49 W ρ m A h0 h28 F28 V24 G → m_lk lv29 0 = some (.ref m) → m_lk lv29 2 = some (.int x29) → m_lk lv29 3 = some (.int lx3) → m_lk lv29 4 = some (.int lx4) → m_lk lv29 5 = some (.int lx5) → j > 0 → k ≥ V 45 (j - 1).toNat → k ≠ V 45 (j - 1).toNat → 0 ≤ F 43 → F 43 ≤ 63 → HJ 230 16 lv29 [] h28 Q)
    (g3 : ∀ h33 : MH, ∀ V33 : Nat → Nat → Int, V33 = m_u V 44 (m_u (V 44) (j).toNat (t)) → ∀ h34 : MH, ∀ V34 : Nat → Nat → Int, V34 = m_u V33 45 (m_u (V33 45) (j).toNat (k)) → ∀ h38 : MH, ∀ F38 : Nat → Int, F38 = m_u F 43 ((F 43) + 1) → ∀ x39 : Int32, x39.toInt = i + 1 → ∀ lv39 : List (Nat × Value), MX 49 W ρ m A h0 h38 F38 V34 G → m_lk lv39 0 = some (.ref m) → m_lk lv39 2 = some (.int x39) → m_lk lv39 3 = some (.int lx3) → m_lk lv39 4 = some (.int lx4) → m_lk lv39 5 = some (.int lx5) → j > 0 → k ≥ V 45 (j - 1).toNat → k = V 45 (j - 1).toNat → t ≥ V 44 (j - 1).toNat → 0 ≤ F 43 → F 43 ≤ 63 → HJ 230 16 lv39 [] h38 Q)
    (g4 : ∀ h43 : MH, ∀ V43 : Nat → Nat → Int, V43 = m_u V 44 (m_u (V 44) (j).toNat (V 44 (j - 1).toNat)) → ∀ h47 : MH, ∀ V47 : Nat → Nat → Int, V47 = m_u V43 45 (m_u (V43 45) (j).toNat (V 45 (j - 1).toNat)) → ∀ x48 : Int32, x48.toInt = j + (-1) → ∀ lv48 : List (Nat × Value), MX 49 W ρ m A h0 h47 F V47 G → m_lk lv48 0 = some (.ref m) → m_lk lv48 2 = some (.int lx2) → m_lk lv48 3 = some (.int lx3) → m_lk lv48 4 = some (.int lx4) → m_lk lv48 5 = some (.int x48) → j > 0 → k ≥ V 45 (j - 1).toNat → k = V 45 (j - 1).toNat → t < V 44 (j - 1).toNat → HJ 230 55 lv48 [] h47 Q)
    : HJ 230 55 lv [] h Q := by
  refine hI_il2 (k := 5) rfl e5 rfl ?_ -- 55
  refine hM_zle (off := 82) (t := 139) rfl lq5 (by decide) rfl (fun c57 => ?_) (fun c57 => ?_) -- 57
  · refine hI_al (k := 0) rfl e0 rfl ?_ -- 139
    refine hM_ga M (by decide) rfl rfl (k := 44) (c := 9) rfl rfl rfl (by decide +kernel) rfl ?_ -- 140
    refine hI_il2 (k := 5) rfl e5 rfl ?_ -- 143
    refine hI_il (k := 3) rfl e3 rfl ?_ -- 145
    refine hM_is M (by decide) ok_49 (K := 44) (R2 := 78) (L := 64) (H := 64) (lo := (-2147483648)) (hi := 2147483647) rfl (by decide) rfl rfl rfl (fun _ => rfl) (d_subm hw (by decide +kernel)) rfl lq5 lq3 (by omega) (by omega) (by omega) (by omega) rfl (fun h1 V1 f1 M1 => ?_) -- 146
    refine hI_al (k := 0) rfl e0 rfl ?_ -- 147
    refine hM_ga M1 (by decide) rfl rfl (k := 45) (c := 9) rfl rfl rfl (by decide +kernel) rfl ?_ -- 148
    refine hI_il2 (k := 5) rfl e5 rfl ?_ -- 151
    refine hI_il2 (k := 4) rfl e4 rfl ?_ -- 153
    refine hM_is M1 (by decide) ok_49 (K := 45) (R2 := 79) (L := 64) (H := 64) (lo := (-2147483648)) (hi := 2147483647) rfl (by decide) rfl rfl rfl (fun _ => rfl) (d_subm hw (by decide +kernel)) rfl lq5 lq4 (by omega) (by omega) (by omega) (by omega) rfl (fun h2 V2 f2 M2 => ?_) -- 155
    refine hI_al (k := 0) rfl e0 rfl ?_ -- 156
    refine hI_dup rfl rfl rfl ?_ -- 157
    refine hM_gi M2 (by decide) rfl rfl rfl (k := 43) (c := 9) (lo := 0) (hi := 63) rfl rfl rfl rfl rfl (fun x3 q3 a3 b3 => ?_) -- 158
    refine hM_ic (n := 1) rfl (by decide) rfl (fun x4 q4 => ?_) -- 161
    refine hM_add rfl q3 q4 (by omega) (by omega) rfl (fun x5 q5 => ?_) -- 162
    refine hM_pi M2 (by decide) ok_49 rfl rfl (k := 43) (c := 9) (lo := 0) (hi := 63) rfl rfl ⟨by decide, by decide +kernel, rfl⟩ rfl (d_subm hw (by decide +kernel)) q5 (by omega) (by omega) rfl (fun h6 F6 f6 M6 => ?_) -- 163
    refine hM_inc (k := 2) (z := 1) rfl e2 lq2 (by decide) (by omega) (by omega) (by decide +kernel) rfl (fun lv7 x7 q7 e7_2 u7 => ?_) -- 166
    have e7_0 := u7 0 _ (by decide) (Or.inl rfl) e0
    have e7_3 := u7 3 _ (by decide) (Or.inl rfl) e3
    have e7_4 := u7 4 _ (by decide) (Or.inl rfl) e4
    have e7_5 := u7 5 _ (by decide) (Or.inl rfl) e5
    refine hI_go (pc' := 16) (off := (-153)) rfl (by decide) ?_ -- 169
    exact g0 h1 V1 f1 h2 V2 f2 h6 F6 f6 x7 q7 lv7 M6 e7_0 e7_2 e7_3 e7_4 e7_5 c57 a3 b3
  · refine hI_il2 (k := 4) rfl e4 rfl ?_ -- 60
    refine hI_al (k := 0) rfl e0 rfl ?_ -- 62
    refine hM_ga M (by decide) rfl rfl (k := 45) (c := 9) rfl rfl rfl (by decide +kernel) rfl ?_ -- 63
    refine hI_il2 (k := 5) rfl e5 rfl ?_ -- 66
    refine hM_ic (n := 1) rfl (by decide) rfl (fun x8 q8 => ?_) -- 68
    refine hM_sub rfl lq5 q8 (by omega) (by omega) rfl (fun x9 q9 => ?_) -- 69
    refine hM_ia M (by decide) (K := 45) (R2 := 79) (L := 64) (H := 64) (lo := (-2147483648)) (hi := 2147483647) rfl (by decide) rfl rfl (fun _ => rfl) rfl q9 (by omega) (by omega) rfl (fun x10 q10 a10 b10 => ?_) -- 70
    refine hM_clt (off := 30) (t := 101) rfl lq4 q10 (by decide) rfl (fun c71 => ?_) (fun c71 => ?_) -- 71
    · refine hI_al (k := 0) rfl e0 rfl ?_ -- 101
      refine hM_ga M (by decide) rfl rfl (k := 44) (c := 9) rfl rfl rfl (by decide +kernel) rfl ?_ -- 102
      refine hI_il2 (k := 5) rfl e5 rfl ?_ -- 105
      refine hI_al (k := 0) rfl e0 rfl ?_ -- 107
      refine hM_ga M (by decide) rfl rfl (k := 44) (c := 9) rfl rfl rfl (by decide +kernel) rfl ?_ -- 108
      refine hI_il2 (k := 5) rfl e5 rfl ?_ -- 111
      refine hM_ic (n := 1) rfl (by decide) rfl (fun x11 q11 => ?_) -- 113
      refine hM_sub rfl lq5 q11 (by omega) (by omega) rfl (fun x12 q12 => ?_) -- 114
      refine hM_ia M (by decide) (K := 44) (R2 := 78) (L := 64) (H := 64) (lo := (-2147483648)) (hi := 2147483647) rfl (by decide) rfl rfl (fun _ => rfl) rfl q12 (by omega) (by omega) rfl (fun x13 q13 a13 b13 => ?_) -- 115
      refine hM_is M (by decide) ok_49 (K := 44) (R2 := 78) (L := 64) (H := 64) (lo := (-2147483648)) (hi := 2147483647) rfl (by decide) rfl rfl rfl (fun _ => rfl) (d_subm hw (by decide +kernel)) rfl lq5 q13 (by omega) (by omega) (by omega) (by omega) rfl (fun h14 V14 f14 M14 => ?_) -- 116
      refine hI_al (k := 0) rfl e0 rfl ?_ -- 117
      refine hM_ga M14 (by decide) rfl rfl (k := 45) (c := 9) rfl rfl rfl (by decide +kernel) rfl ?_ -- 118
      refine hI_il2 (k := 5) rfl e5 rfl ?_ -- 121
      refine hI_al (k := 0) rfl e0 rfl ?_ -- 123
      refine hM_ga M14 (by decide) rfl rfl (k := 45) (c := 9) rfl rfl rfl (by decide +kernel) rfl ?_ -- 124
      refine hI_il2 (k := 5) rfl e5 rfl ?_ -- 127
      refine hM_ic (n := 1) rfl (by decide) rfl (fun x15 q15 => ?_) -- 129
      refine hM_sub rfl lq5 q15 (by omega) (by omega) rfl (fun x16 q16 => ?_) -- 130
      refine hM_ia M14 (by decide) (K := 45) (R2 := 79) (L := 64) (H := 64) (lo := (-2147483648)) (hi := 2147483647) rfl (by decide) rfl rfl (fun _ => rfl) rfl q16 (by omega) (by omega) rfl (fun x17 q17 a17 b17 => ?_) -- 131
      have q17 : x17.toInt = V 45 (j - 1).toNat := by rw [q17, f14]; rfl
      rw [f14] at a17 b17
      change (-2147483648) ≤ V 45 (j - 1).toNat at a17
      change V 45 (j - 1).toNat ≤ 2147483647 at b17 -- 131
      refine hM_is M14 (by decide) ok_49 (K := 45) (R2 := 79) (L := 64) (H := 64) (lo := (-2147483648)) (hi := 2147483647) rfl (by decide) rfl rfl rfl (fun _ => rfl) (d_subm hw (by decide +kernel)) rfl lq5 q17 (by omega) (by omega) (by omega) (by omega) rfl (fun h18 V18 f18 M18 => ?_) -- 132
      refine hM_inc (k := 5) (z := (-1)) rfl e5 lq5 (by decide) (by omega) (by omega) (by decide +kernel) rfl (fun lv19 x19 q19 e19_5 u19 => ?_) -- 133
      have e19_0 := u19 0 _ (by decide) (Or.inl rfl) e0
      have e19_2 := u19 2 _ (by decide) (Or.inl rfl) e2
      have e19_3 := u19 3 _ (by decide) (Or.inl rfl) e3
      have e19_4 := u19 4 _ (by decide) (Or.inl rfl) e4
      refine hI_go (pc' := 55) (off := (-81)) rfl (by decide) ?_ -- 136
      exact g1 h14 V14 f14 h18 V18 f18 x19 q19 lv19 M18 e19_0 e19_2 e19_3 e19_4 e19_5 c57 c71
    · refine hI_il2 (k := 4) rfl e4 rfl ?_ -- 74
      refine hI_al (k := 0) rfl e0 rfl ?_ -- 76
      refine hM_ga M (by decide) rfl rfl (k := 45) (c := 9) rfl rfl rfl (by decide +kernel) rfl ?_ -- 77
      refine hI_il2 (k := 5) rfl e5 rfl ?_ -- 80
      refine hM_ic (n := 1) rfl (by decide) rfl (fun x20 q20 => ?_) -- 82
      refine hM_sub rfl lq5 q20 (by omega) (by omega) rfl (fun x21 q21 => ?_) -- 83
      refine hM_ia M (by decide) (K := 45) (R2 := 79) (L := 64) (H := 64) (lo := (-2147483648)) (hi := 2147483647) rfl (by decide) rfl rfl (fun _ => rfl) rfl q21 (by omega) (by omega) rfl (fun x22 q22 a22 b22 => ?_) -- 84
      refine hM_cne (off := 54) (t := 139) rfl lq4 q22 (by decide) rfl (fun c85 => ?_) (fun c85 => ?_) -- 85
      · refine hI_al (k := 0) rfl e0 rfl ?_ -- 139
        refine hM_ga M (by decide) rfl rfl (k := 44) (c := 9) rfl rfl rfl (by decide +kernel) rfl ?_ -- 140
        refine hI_il2 (k := 5) rfl e5 rfl ?_ -- 143
        refine hI_il (k := 3) rfl e3 rfl ?_ -- 145
        refine hM_is M (by decide) ok_49 (K := 44) (R2 := 78) (L := 64) (H := 64) (lo := (-2147483648)) (hi := 2147483647) rfl (by decide) rfl rfl rfl (fun _ => rfl) (d_subm hw (by decide +kernel)) rfl lq5 lq3 (by omega) (by omega) (by omega) (by omega) rfl (fun h23 V23 f23 M23 => ?_) -- 146
        refine hI_al (k := 0) rfl e0 rfl ?_ -- 147
        refine hM_ga M23 (by decide) rfl rfl (k := 45) (c := 9) rfl rfl rfl (by decide +kernel) rfl ?_ -- 148
        refine hI_il2 (k := 5) rfl e5 rfl ?_ -- 151
        refine hI_il2 (k := 4) rfl e4 rfl ?_ -- 153
        refine hM_is M23 (by decide) ok_49 (K := 45) (R2 := 79) (L := 64) (H := 64) (lo := (-2147483648)) (hi := 2147483647) rfl (by decide) rfl rfl rfl (fun _ => rfl) (d_subm hw (by decide +kernel)) rfl lq5 lq4 (by omega) (by omega) (by omega) (by omega) rfl (fun h24 V24 f24 M24 => ?_) -- 155
        refine hI_al (k := 0) rfl e0 rfl ?_ -- 156
        refine hI_dup rfl rfl rfl ?_ -- 157
        refine hM_gi M24 (by decide) rfl rfl rfl (k := 43) (c := 9) (lo := 0) (hi := 63) rfl rfl rfl rfl rfl (fun x25 q25 a25 b25 => ?_) -- 158
        refine hM_ic (n := 1) rfl (by decide) rfl (fun x26 q26 => ?_) -- 161
        refine hM_add rfl q25 q26 (by omega) (by omega) rfl (fun x27 q27 => ?_) -- 162
        refine hM_pi M24 (by decide) ok_49 rfl rfl (k := 43) (c := 9) (lo := 0) (hi := 63) rfl rfl ⟨by decide, by decide +kernel, rfl⟩ rfl (d_subm hw (by decide +kernel)) q27 (by omega) (by omega) rfl (fun h28 F28 f28 M28 => ?_) -- 163
        refine hM_inc (k := 2) (z := 1) rfl e2 lq2 (by decide) (by omega) (by omega) (by decide +kernel) rfl (fun lv29 x29 q29 e29_2 u29 => ?_) -- 166
        have e29_0 := u29 0 _ (by decide) (Or.inl rfl) e0
        have e29_3 := u29 3 _ (by decide) (Or.inl rfl) e3
        have e29_4 := u29 4 _ (by decide) (Or.inl rfl) e4
        have e29_5 := u29 5 _ (by decide) (Or.inl rfl) e5
        refine hI_go (pc' := 16) (off := (-153)) rfl (by decide) ?_ -- 169
        exact g2 h23 V23 f23 h24 V24 f24 h28 F28 f28 x29 q29 lv29 M28 e29_0 e29_2 e29_3 e29_4 e29_5 c57 c71 c85 a25 b25
      · refine hI_il (k := 3) rfl e3 rfl ?_ -- 88
        refine hI_al (k := 0) rfl e0 rfl ?_ -- 89
        refine hM_ga M (by decide) rfl rfl (k := 44) (c := 9) rfl rfl rfl (by decide +kernel) rfl ?_ -- 90
        refine hI_il2 (k := 5) rfl e5 rfl ?_ -- 93
        refine hM_ic (n := 1) rfl (by decide) rfl (fun x30 q30 => ?_) -- 95
        refine hM_sub rfl lq5 q30 (by omega) (by omega) rfl (fun x31 q31 => ?_) -- 96
        refine hM_ia M (by decide) (K := 44) (R2 := 78) (L := 64) (H := 64) (lo := (-2147483648)) (hi := 2147483647) rfl (by decide) rfl rfl (fun _ => rfl) rfl q31 (by omega) (by omega) rfl (fun x32 q32 a32 b32 => ?_) -- 97
        refine hM_cge (off := 41) (t := 139) rfl lq3 q32 (by decide) rfl (fun c98 => ?_) (fun c98 => ?_) -- 98
        · refine hI_al (k := 0) rfl e0 rfl ?_ -- 139
          refine hM_ga M (by decide) rfl rfl (k := 44) (c := 9) rfl rfl rfl (by decide +kernel) rfl ?_ -- 140
          refine hI_il2 (k := 5) rfl e5 rfl ?_ -- 143
          refine hI_il (k := 3) rfl e3 rfl ?_ -- 145
          refine hM_is M (by decide) ok_49 (K := 44) (R2 := 78) (L := 64) (H := 64) (lo := (-2147483648)) (hi := 2147483647) rfl (by decide) rfl rfl rfl (fun _ => rfl) (d_subm hw (by decide +kernel)) rfl lq5 lq3 (by omega) (by omega) (by omega) (by omega) rfl (fun h33 V33 f33 M33 => ?_) -- 146
          refine hI_al (k := 0) rfl e0 rfl ?_ -- 147
          refine hM_ga M33 (by decide) rfl rfl (k := 45) (c := 9) rfl rfl rfl (by decide +kernel) rfl ?_ -- 148
          refine hI_il2 (k := 5) rfl e5 rfl ?_ -- 151
          refine hI_il2 (k := 4) rfl e4 rfl ?_ -- 153
          refine hM_is M33 (by decide) ok_49 (K := 45) (R2 := 79) (L := 64) (H := 64) (lo := (-2147483648)) (hi := 2147483647) rfl (by decide) rfl rfl rfl (fun _ => rfl) (d_subm hw (by decide +kernel)) rfl lq5 lq4 (by omega) (by omega) (by omega) (by omega) rfl (fun h34 V34 f34 M34 => ?_) -- 155
          refine hI_al (k := 0) rfl e0 rfl ?_ -- 156
          refine hI_dup rfl rfl rfl ?_ -- 157
          refine hM_gi M34 (by decide) rfl rfl rfl (k := 43) (c := 9) (lo := 0) (hi := 63) rfl rfl rfl rfl rfl (fun x35 q35 a35 b35 => ?_) -- 158
          refine hM_ic (n := 1) rfl (by decide) rfl (fun x36 q36 => ?_) -- 161
          refine hM_add rfl q35 q36 (by omega) (by omega) rfl (fun x37 q37 => ?_) -- 162
          refine hM_pi M34 (by decide) ok_49 rfl rfl (k := 43) (c := 9) (lo := 0) (hi := 63) rfl rfl ⟨by decide, by decide +kernel, rfl⟩ rfl (d_subm hw (by decide +kernel)) q37 (by omega) (by omega) rfl (fun h38 F38 f38 M38 => ?_) -- 163
          refine hM_inc (k := 2) (z := 1) rfl e2 lq2 (by decide) (by omega) (by omega) (by decide +kernel) rfl (fun lv39 x39 q39 e39_2 u39 => ?_) -- 166
          have e39_0 := u39 0 _ (by decide) (Or.inl rfl) e0
          have e39_3 := u39 3 _ (by decide) (Or.inl rfl) e3
          have e39_4 := u39 4 _ (by decide) (Or.inl rfl) e4
          have e39_5 := u39 5 _ (by decide) (Or.inl rfl) e5
          refine hI_go (pc' := 16) (off := (-153)) rfl (by decide) ?_ -- 169
          exact g3 h33 V33 f33 h34 V34 f34 h38 F38 f38 x39 q39 lv39 M38 e39_0 e39_2 e39_3 e39_4 e39_5 c57 c71 c85 c98 a35 b35
        · refine hI_al (k := 0) rfl e0 rfl ?_ -- 101
          refine hM_ga M (by decide) rfl rfl (k := 44) (c := 9) rfl rfl rfl (by decide +kernel) rfl ?_ -- 102
          refine hI_il2 (k := 5) rfl e5 rfl ?_ -- 105
          refine hI_al (k := 0) rfl e0 rfl ?_ -- 107
          refine hM_ga M (by decide) rfl rfl (k := 44) (c := 9) rfl rfl rfl (by decide +kernel) rfl ?_ -- 108
          refine hI_il2 (k := 5) rfl e5 rfl ?_ -- 111
          refine hM_ic (n := 1) rfl (by decide) rfl (fun x40 q40 => ?_) -- 113
          refine hM_sub rfl lq5 q40 (by omega) (by omega) rfl (fun x41 q41 => ?_) -- 114
          refine hM_ia M (by decide) (K := 44) (R2 := 78) (L := 64) (H := 64) (lo := (-2147483648)) (hi := 2147483647) rfl (by decide) rfl rfl (fun _ => rfl) rfl q41 (by omega) (by omega) rfl (fun x42 q42 a42 b42 => ?_) -- 115
          refine hM_is M (by decide) ok_49 (K := 44) (R2 := 78) (L := 64) (H := 64) (lo := (-2147483648)) (hi := 2147483647) rfl (by decide) rfl rfl rfl (fun _ => rfl) (d_subm hw (by decide +kernel)) rfl lq5 q42 (by omega) (by omega) (by omega) (by omega) rfl (fun h43 V43 f43 M43 => ?_) -- 116
          refine hI_al (k := 0) rfl e0 rfl ?_ -- 117
          refine hM_ga M43 (by decide) rfl rfl (k := 45) (c := 9) rfl rfl rfl (by decide +kernel) rfl ?_ -- 118
          refine hI_il2 (k := 5) rfl e5 rfl ?_ -- 121
          refine hI_al (k := 0) rfl e0 rfl ?_ -- 123
          refine hM_ga M43 (by decide) rfl rfl (k := 45) (c := 9) rfl rfl rfl (by decide +kernel) rfl ?_ -- 124
          refine hI_il2 (k := 5) rfl e5 rfl ?_ -- 127
          refine hM_ic (n := 1) rfl (by decide) rfl (fun x44 q44 => ?_) -- 129
          refine hM_sub rfl lq5 q44 (by omega) (by omega) rfl (fun x45 q45 => ?_) -- 130
          refine hM_ia M43 (by decide) (K := 45) (R2 := 79) (L := 64) (H := 64) (lo := (-2147483648)) (hi := 2147483647) rfl (by decide) rfl rfl (fun _ => rfl) rfl q45 (by omega) (by omega) rfl (fun x46 q46 a46 b46 => ?_) -- 131
          have q46 : x46.toInt = V 45 (j - 1).toNat := by rw [q46, f43]; rfl
          rw [f43] at a46 b46
          change (-2147483648) ≤ V 45 (j - 1).toNat at a46
          change V 45 (j - 1).toNat ≤ 2147483647 at b46 -- 131
          refine hM_is M43 (by decide) ok_49 (K := 45) (R2 := 79) (L := 64) (H := 64) (lo := (-2147483648)) (hi := 2147483647) rfl (by decide) rfl rfl rfl (fun _ => rfl) (d_subm hw (by decide +kernel)) rfl lq5 q46 (by omega) (by omega) (by omega) (by omega) rfl (fun h47 V47 f47 M47 => ?_) -- 132
          refine hM_inc (k := 5) (z := (-1)) rfl e5 lq5 (by decide) (by omega) (by omega) (by decide +kernel) rfl (fun lv48 x48 q48 e48_5 u48 => ?_) -- 133
          have e48_0 := u48 0 _ (by decide) (Or.inl rfl) e0
          have e48_2 := u48 2 _ (by decide) (Or.inl rfl) e2
          have e48_3 := u48 3 _ (by decide) (Or.inl rfl) e3
          have e48_4 := u48 4 _ (by decide) (Or.inl rfl) e4
          refine hI_go (pc' := 55) (off := (-81)) rfl (by decide) ?_ -- 136
          exact g4 h43 V43 f43 h47 V47 f47 x48 q48 lv48 M47 e48_0 e48_2 e48_3 e48_4 e48_5 c57 c71 c85 c98
theorem l_sa55 {i : Nat} {w : Nat} {xi xt xk : Int32} {V0 : Nat → Nat → Int} {f43 : Nat} (hw : d_sub [(78, 1001), (79, 1001), (49, 43)] W = true) (fo : F 43 = (f43 : Int)) (f62 : f43 ≤ 62) (i62 : i ≤ 62) (hi : xi.toInt = (i : Int)) (g : ∀ (lv : List (Nat × Value)) (h : MH) (F' : Nat → Int) (V : Nat → Nat → Int) (xi' : Int32), MX 49 W ρ m A h0 h F' V G → F' = m_u F 43 (F 43 + 1) → (∀ K, K ≠ 44 → K ≠ 45 → V K = V0 K) → xi'.toInt = (i : Int) + 1 → m_lk lv 0 = some (.ref m) → m_lk lv 2 = some (.int xi') → HJ 230 16 lv [] h Q) : ∀ (j : Nat) (lv : List (Nat × Value)) (h : MH) (V : Nat → Nat → Int) (xj : Int32), j ≤ 62 → MX 49 W ρ m A h0 h F V G → (∀ K, K ≠ 44 → K ≠ 45 → V K = V0 K) → xj.toInt = (j : Int) → m_lk lv 0 = some (.ref m) → m_lk lv 2 = some (.int xi) → m_lk lv 3 = some (.int xt) → m_lk lv 4 = some (.int xk) → m_lk lv 5 = some (.int xj) → HJ 230 55 lv [] h Q := by
  have tT : -2147483648 ≤ xt.toInt ∧ xt.toInt ≤ 2147483647 := g_iT xt
  have kT : -2147483648 ≤ xk.toInt ∧ xk.toInt ≤ 2147483647 := g_iT xk
  have nx : ∀ {V V1 V2 : Nat → Nat → Int} {a b : Nat → Int}, (∀ K, K ≠ 44 → K ≠ 45 → V K = V0 K) → V1 = m_u V 44 a → V2 = m_u V1 45 b → ∀ K, K ≠ 44 → K ≠ 45 → V2 K = V0 K := fun vo p1 p2 K k1 k2 => by rw [p2, m_uN _ _ _ _ k2, p1, m_uN _ _ _ _ k1, vo K k1 k2]
  intro j
  induction j with
  | zero =>
    intro lv h V xj hj M vo qj e0 e2 e3 e4 e5
    exact s_sa55 M e0 e2 hi e3 rfl e4 rfl e5 qj (by omega) (by omega) (by omega) (by omega) (by omega) (by omega) tT kT hw (fun h1 V1 f1 h2 V2 f2 h6 F6 f6 x7 q7 lv7 M6 d0 d2 d3 d4 d5 _ _ _ => g lv7 h6 F6 V2 x7 M6 f6 (nx vo f1 f2) q7 d0 d2) (fun h14 V14 f14 h18 V18 f18 x19 q19 lv19 M18 _ _ _ _ _ c _ => by omega) (fun h1 V1 f1 h2 V2 f2 h6 F6 f6 x7 q7 lv7 M6 d0 d2 d3 d4 d5 c _ _ _ _ => by omega) (fun h1 V1 f1 h2 V2 f2 h6 F6 f6 x7 q7 lv7 M6 d0 d2 d3 d4 d5 c _ _ _ _ _ => by omega) (fun h14 V14 f14 h18 V18 f18 x19 q19 lv19 M18 _ _ _ _ _ c _ _ _ => by omega)
  | succ j ih =>
    intro lv h V xj hj M vo qj e0 e2 e3 e4 e5
    exact s_sa55 M e0 e2 hi e3 rfl e4 rfl e5 qj (by omega) (by omega) (by omega) (by omega) (by omega) (by omega) tT kT hw (fun h1 V1 f1 h2 V2 f2 h6 F6 f6 x7 q7 lv7 M6 d0 d2 d3 d4 d5 _ _ _ => g lv7 h6 F6 V2 x7 M6 f6 (nx vo f1 f2) q7 d0 d2) (fun h14 V14 f14 h18 V18 f18 x19 q19 lv19 M18 d0 d2 d3 d4 d5 c _ => ih lv19 h18 V18 x19 (by omega) M18 (nx vo f14 f18) (by omega) d0 d2 d3 d4 d5) (fun h1 V1 f1 h2 V2 f2 h6 F6 f6 x7 q7 lv7 M6 d0 d2 d3 d4 d5 c _ _ _ _ => g lv7 h6 F6 V2 x7 M6 f6 (nx vo f1 f2) q7 d0 d2) (fun h1 V1 f1 h2 V2 f2 h6 F6 f6 x7 q7 lv7 M6 d0 d2 d3 d4 d5 c _ _ _ _ _ => g lv7 h6 F6 V2 x7 M6 f6 (nx vo f1 f2) q7 d0 d2) (fun h14 V14 f14 h18 V18 f18 x19 q19 lv19 M18 d0 d2 d3 d4 d5 c _ _ _ => ih lv19 h18 V18 x19 (by omega) M18 (nx vo f14 f18) (by omega) d0 d2 d3 d4 d5)
theorem l_sa16 {w : Nat} {F0 : Nat → Int} {V0 : Nat → Nat → Int} (hw : d_sub [(78, 1001), (79, 1001), (49, 43)] W = true) (w63 : w ≤ 63) (g : ∀ (h' : MH) (F' : Nat → Int) (V' : Nat → Nat → Int), MX 49 W ρ m A h0 h' F' V' G → F' 43 = (w : Int) → (∀ K, K ≠ 43 → F' K = F0 K) → (∀ K, K ≠ 44 → K ≠ 45 → V' K = V0 K) → Q none h') : ∀ (d i : Nat) (lv : List (Nat × Value)) (h : MH) (F : Nat → Int) (V : Nat → Nat → Int) (xi : Int32), i + d = w → MX 49 W ρ m A h0 h F V G → F 26 = (w : Int) → F 43 = (i : Int) → (∀ K, K ≠ 43 → F K = F0 K) → (∀ K, K ≠ 44 → K ≠ 45 → V K = V0 K) → xi.toInt = (i : Int) → m_lk lv 0 = some (.ref m) → m_lk lv 2 = some (.int xi) → HJ 230 16 lv [] h Q := by
  intro d
  induction d with
  | zero =>
    intro i lv h F V xi hd M fw f43 fo vo hi e0 e2
    have iw : i = w := by omega
    subst iw
    exact s_sa16 M e0 e2 hi (by omega) (by omega) (fun _ _ _ => g h F V M f43 fo vo) (fun x3 q3 x6 q6 x8 q8 lv9 _ _ _ _ _ _ _ c _ _ _ _ => by omega)
  | succ d ih =>
    intro i lv h F V xi hd M fw f43 fo vo hi e0 e2
    refine s_sa16 M e0 e2 hi (by omega) (by omega) (fun _ _ _ => by omega) (fun x3 q3 x6 q6 x8 q8 lv9 d0 d2 d3 d4 d5 _ _ c _ _ _ _ => ?_)
    exact l_sa55 (i := i) (w := w) (V0 := V0) (f43 := i) hw f43 (by omega) (by omega) hi (fun lv7 h6 F6 V2 x7 M6 f6 vo2 q7 b0 b2 => ih (i + 1) lv7 h6 F6 V2 x7 (by omega) M6 (by rw [f6, m_uN _ _ _ _ (by decide)]; exact fw) (by rw [f6, m_uE]; omega) (fun K hK => by rw [f6, m_uN _ _ _ _ hK, fo K hK]) vo2 (by omega) b0 b2) i lv9 h V x8 (by omega) M vo (by omega) d0 d2 d3 d4 d5
def g_so : List (Nat × Nat) := g_wk ++ [(61, 1001), (78, 1001), (79, 1001), (49, 43)]
theorem c_sortAll {v : Nat} {xv : Int32} (M : MX 49 W ρ m A h0 h F V G) (hw : d_sub g_so W = true) (qv : xv.toInt = (v : Int)) (v40 : v ≤ 40) (vs : (v : Int) < F 35) (n1 : F 17 ≤ 16000) (sh : p_sh (F 17) (V 22) (V 23)) (ro : p_ro (F 17) (F 35) (V 22) (V 36)) (g : ∀ (h' : MH) (F' : Nat → Int) (V' : Nat → Nat → Int), MX 49 W ρ m A h0 h' F' V' G → F' 43 = (p_wv (V 36) v : Int) → (∀ K, K ≠ 26 → K ≠ 43 → F' K = F K) → (∀ K, K < 24 ∨ (31 < K ∧ K ≠ 44 ∧ K ≠ 45) → V' K = V K) → Q none h') : HJ 230 0 (lv_args 0 [.ref m, .int xv]) [] h Q := by
  have w1 : d_sub [(61, 1001)] W = true := d_subm hw (by decide +kernel)
  have w2 : d_sub g_wk W = true := d_subm hw (by decide +kernel)
  have w3 : d_sub [(78, 1001), (79, 1001), (49, 43)] W = true := d_subm hw (by decide +kernel)
  have w4 : d_sub [(49, 43)] W = true := d_subm hw (by decide +kernel)
  refine s_sa0 M rfl rfl qv (c_hand (v := v) M qv v40 w1 (fun h2 V2 M2 k1 k2 => ?_))
  refine s_sa5 M2 rfl ?_
  refine c_walkAll M2 rfl w2 (by rw [k2 22 (by decide), k2 23 (by decide)]; exact sh) (fun r h6 => ?_) n1 (fun h3 F3 V3 M3 J fw X _ => ?_)
  · rw [k2 22 (by decide), k1 r h6]
    exact ro v r vs h6
  · have e : p_ws (V2 24) 6 = p_wv (V 36) v := p_wsC (fun r h6 => k1 r h6)
    have wl := p_wvL (V 36) v
    rw [e] at fw
    refine s_sa9 M3 rfl w4 (fun h4 F4 f4 x3 q3 lv4 M4 e0 e2 => ?_)
    refine l_sa16 (w := p_wv (V 36) v) (F0 := F3) (V0 := V3) w3 (by omega) (fun h5 F5 V5 M5 f43 fo vo => g h5 F5 V5 M5 f43 (fun K k3 k4 => (fo K k4).trans (J.1 K k3)) (fun K hK => by rw [vo K (by omega) (by omega), J.2 K (by omega), k2 K (by omega)])) (p_wv (V 36) v) 0 lv4 h4 F4 V3 x3 (by omega) M4 (by rw [f4, m_uN _ _ _ _ (by decide)]; exact fw) (by rw [f4, m_uE]; rfl) (fun K hK => by rw [f4, m_uN _ _ _ _ hK]) (fun _ _ _ => rfl) q3 e0 e2
theorem s_ht0 (M : MX 49 W ρ m A h0 h F V G) (e0 : m_lk lv 0 = some (.ref m)) 
    (g0 : ∀ x1 : Int32, x1.toInt = 0 → ∀ lv2 : List (Nat × Value), m_lk lv2 0 = some (.ref m) → m_lk lv2 1 = some (.int x1) → HJ 254 2 lv2 [] h Q)
    : HJ 254 0 lv [] h Q := by
  refine hM_ic (n := 0) rfl (by decide) rfl (fun x1 q1 => ?_) -- 0
  refine hM_si (k := 1) rfl (by decide +kernel) rfl (fun lv2 e2_1 u2 => ?_) -- 1
  have e2_0 := u2 0 _ (by decide) (Or.inl rfl) e0
  exact g0 x1 q1 lv2 e2_0 e2_1
theorem s_ht2 {k : Int} (M : MX 49 W ρ m A h0 h F V G) (e0 : m_lk lv 0 = some (.ref m)) {lx1 : Int32} (e1 : m_lk lv 1 = some (.int lx1)) (lq1 : lx1.toInt = k) 
    (g0 : ∀ x2 : Int32, x2.toInt = 0 → 0 ≤ F 43 → F 43 ≤ 63 → k ≥ F 43 → Q (some (.int x2)) h)
    (g1 : ∀ x3 : Int32, x3.toInt = 0 → ∀ lv4 : List (Nat × Value), m_lk lv4 0 = some (.ref m) → m_lk lv4 1 = some (.int lx1) → m_lk lv4 2 = some (.int x3) → 0 ≤ F 43 → F 43 ≤ 63 → k < F 43 → HJ 254 12 lv4 [] h Q)
    : HJ 254 2 lv [] h Q := by
  refine hI_il (k := 1) rfl e1 rfl ?_ -- 2
  refine hI_al (k := 0) rfl e0 rfl ?_ -- 3
  refine hM_gi M (by decide) rfl rfl rfl (k := 43) (c := 9) (lo := 0) (hi := 63) rfl rfl rfl rfl rfl (fun x1 q1 a1 b1 => ?_) -- 4
  refine hM_cge (off := 39) (t := 46) rfl lq1 q1 (by decide) rfl (fun c7 => ?_) (fun c7 => ?_) -- 7
  · refine hM_ic (n := 0) rfl (by decide) rfl (fun x2 q2 => ?_) -- 46
    refine hM_rb rfl rfl q2 (by omega) (by omega) ?_ -- 47
    exact g0 x2 q2 a1 b1 c7
  · refine hM_ic (n := 0) rfl (by decide) rfl (fun x3 q3 => ?_) -- 10
    refine hM_si (k := 2) rfl (by decide +kernel) rfl (fun lv4 e4_2 u4 => ?_) -- 11
    have e4_0 := u4 0 _ (by decide) (Or.inl rfl) e0
    have e4_1 := u4 1 _ (by decide) (Or.inl rfl) e1
    exact g1 x3 q3 lv4 e4_0 e4_1 e4_2 a1 b1 c7
theorem s_ht12 {k i : Int} (M : MX 49 W ρ m A h0 h F V G) (e0 : m_lk lv 0 = some (.ref m)) {lx1 : Int32} (e1 : m_lk lv 1 = some (.int lx1)) (lq1 : lx1.toInt = k) {lx2 : Int32} (e2 : m_lk lv 2 = some (.int lx2)) (lq2 : lx2.toInt = i) (k0 : 0 ≤ k) (k1 : k ≤ 62) (i0 : 0 ≤ i)
    (g0 : ∀ x1 : Int32, x1.toInt = k + 1 → ∀ lv1 : List (Nat × Value), m_lk lv1 0 = some (.ref m) → m_lk lv1 1 = some (.int x1) → m_lk lv1 2 = some (.int lx2) → i ≥ k → HJ 254 2 lv1 [] h Q)
    (g1 : ∀ x4 : Int32, x4.toInt = i + 1 → ∀ lv4 : List (Nat × Value), m_lk lv4 0 = some (.ref m) → m_lk lv4 1 = some (.int lx1) → m_lk lv4 2 = some (.int x4) → i < k → V 44 (i).toNat ≠ V 44 (k).toNat → HJ 254 12 lv4 [] h Q)
    (g2 : ∀ x5 : Int32, x5.toInt = 1 → i < k → V 44 (i).toNat = V 44 (k).toNat → Q (some (.int x5)) h)
    : HJ 254 12 lv [] h Q := by
  refine hI_il (k := 2) rfl e2 rfl ?_ -- 12
  refine hI_il (k := 1) rfl e1 rfl ?_ -- 13
  refine hM_cge (off := 26) (t := 40) rfl lq2 lq1 (by decide) rfl (fun c14 => ?_) (fun c14 => ?_) -- 14
  · refine hM_inc (k := 1) (z := 1) rfl e1 lq1 (by decide) (by omega) (by omega) (by decide +kernel) rfl (fun lv1 x1 q1 e1_1 u1 => ?_) -- 40
    have e1_0 := u1 0 _ (by decide) (Or.inl rfl) e0
    have e1_2 := u1 2 _ (by decide) (Or.inl rfl) e2
    refine hI_go (pc' := 2) (off := (-41)) rfl (by decide) ?_ -- 43
    exact g0 x1 q1 lv1 e1_0 e1_1 e1_2 c14
  · refine hI_al (k := 0) rfl e0 rfl ?_ -- 17
    refine hM_ga M (by decide) rfl rfl (k := 44) (c := 9) rfl rfl rfl (by decide +kernel) rfl ?_ -- 18
    refine hI_il (k := 2) rfl e2 rfl ?_ -- 21
    refine hM_ia M (by decide) (K := 44) (R2 := 78) (L := 64) (H := 64) (lo := (-2147483648)) (hi := 2147483647) rfl (by decide) rfl rfl (fun _ => rfl) rfl lq2 (by omega) (by omega) rfl (fun x2 q2 a2 b2 => ?_) -- 22
    refine hI_al (k := 0) rfl e0 rfl ?_ -- 23
    refine hM_ga M (by decide) rfl rfl (k := 44) (c := 9) rfl rfl rfl (by decide +kernel) rfl ?_ -- 24
    refine hI_il (k := 1) rfl e1 rfl ?_ -- 27
    refine hM_ia M (by decide) (K := 44) (R2 := 78) (L := 64) (H := 64) (lo := (-2147483648)) (hi := 2147483647) rfl (by decide) rfl rfl (fun _ => rfl) rfl lq1 (by omega) (by omega) rfl (fun x3 q3 a3 b3 => ?_) -- 28
    refine hM_cne (off := 5) (t := 34) rfl q2 q3 (by decide) rfl (fun c29 => ?_) (fun c29 => ?_) -- 29
    · refine hM_inc (k := 2) (z := 1) rfl e2 lq2 (by decide) (by omega) (by omega) (by decide +kernel) rfl (fun lv4 x4 q4 e4_2 u4 => ?_) -- 34
      have e4_0 := u4 0 _ (by decide) (Or.inl rfl) e0
      have e4_1 := u4 1 _ (by decide) (Or.inl rfl) e1
      refine hI_go (pc' := 12) (off := (-25)) rfl (by decide) ?_ -- 37
      exact g1 x4 q4 lv4 e4_0 e4_1 e4_2 c14 c29
    · refine hM_ic (n := 1) rfl (by decide) rfl (fun x5 q5 => ?_) -- 32
      refine hM_rb rfl rfl q5 (by omega) (by omega) ?_ -- 33
      exact g2 x5 q5 c14 c29
theorem c_hasTwice (M : MX 49 W ρ m A h0 h F V G) (g : ∀ z : Int32, Q (some (.int z)) h) : HJ 254 0 (lv_args 0 [.ref m]) [] h Q := by
  have b := M.fi (by decide) (k := 43) (lo := 0) (hi := 63) rfl rfl rfl
  have out : ∀ (d k : Nat) (lv : List (Nat × Value)) (xk : Int32), k + d = 63 → xk.toInt = (k : Int) → m_lk lv 0 = some (.ref m) → m_lk lv 1 = some (.int xk) → HJ 254 2 lv [] h Q := by
    intro d
    induction d with
    | zero =>
      intro k lv xk hd hk e0 e1
      exact s_ht2 M e0 e1 hk (fun z _ _ _ _ => g z) (fun x3 q3 lv4 _ _ _ _ _ c => by omega)
    | succ d ih =>
      intro k lv xk hd hk e0 e1
      have inn : ∀ (d i : Nat) (lv : List (Nat × Value)) (xi : Int32), i + d = k → xi.toInt = (i : Int) → m_lk lv 0 = some (.ref m) → m_lk lv 1 = some (.int xk) → m_lk lv 2 = some (.int xi) → HJ 254 12 lv [] h Q := by
        intro d2
        induction d2 with
        | zero =>
          intro i lv xi hd2 hi e0 e1 e2
          exact s_ht12 M e0 e1 hk e2 hi (by omega) (by omega) (by omega) (fun x1 q1 lv1 d0 d1 _ _ => ih (k + 1) lv1 x1 (by omega) (by omega) d0 d1) (fun x4 q4 lv4 _ _ _ c _ => by omega) (fun z _ _ _ => g z)
        | succ d2 ih2 =>
          intro i lv xi hd2 hi e0 e1 e2
          exact s_ht12 M e0 e1 hk e2 hi (by omega) (by omega) (by omega) (fun x1 q1 lv1 d0 d1 _ _ => ih (k + 1) lv1 x1 (by omega) (by omega) d0 d1) (fun x4 q4 lv4 d0 d1 d2 _ _ => ih2 (i + 1) lv4 x4 (by omega) (by omega) d0 d1 d2) (fun z _ _ _ => g z)
      exact s_ht2 M e0 e1 hk (fun z _ _ _ _ => g z) (fun x3 q3 lv4 d0 d1 d2 _ _ _ => inn k 0 lv4 x3 (by omega) q3 d0 d1 d2)
  exact s_ht0 M rfl (fun x1 q1 lv2 e0 e1 => out 63 0 lv2 x1 rfl q1 e0 e1)
theorem s_df0 {r a b : Int} (M : MX 49 W ρ m A h0 h F V G) (e0 : m_lk lv 0 = some (.ref m)) {lx1 : Int32} (e1 : m_lk lv 1 = some (.int lx1)) (lq1 : lx1.toInt = r) {lx2 : Int32} (e2 : m_lk lv 2 = some (.int lx2)) (lq2 : lx2.toInt = a) {lx3 : Int32} (e3 : m_lk lv 3 = some (.int lx3)) (lq3 : lx3.toInt = b) (hw : d_sub [(49, 0)] W = true)
    (g0 : ∀ h2 : MH, ∀ F2 : Nat → Int, F2 = m_u F 0 (0) → MX 49 W ρ m A h0 h2 F2 V G → HJ 240 0 (lv_args 0 [.ref m, .int lx1, .int lx2, .int lx3]) [] h2 (fun v h' => HJ 253 12 lv (v.toList ++ []) h' Q))
    : HJ 253 0 lv [] h Q := by
  refine hI_al (k := 0) rfl e0 rfl ?_ -- 0
  refine hM_ic (n := 0) rfl (by decide) rfl (fun x1 q1 => ?_) -- 1
  refine hM_pi M (by decide) ok_49 rfl rfl (k := 0) (c := 9) (lo := (-2147483648)) (hi := 2147483647) rfl rfl ⟨by decide, by decide +kernel, rfl⟩ rfl (d_subm hw (by decide +kernel)) q1 (by omega) (by omega) rfl (fun h2 F2 f2 M2 => ?_) -- 2
  refine hI_al (k := 0) rfl e0 rfl ?_ -- 5
  refine hI_il (k := 1) rfl e1 rfl ?_ -- 6
  refine hI_il (k := 2) rfl e2 rfl ?_ -- 7
  refine hI_il (k := 3) rfl e3 rfl ?_ -- 8
  refine hM_iv M2 (by decide) rfl rfl (by decide) (as := [.int lx1, .int lx2, .int lx3]) (r := []) rfl rfl (by decide +kernel) rfl (by decide +kernel) rfl rfl rfl rfl rfl ?_ -- 9
  exact g0 h2 F2 f2 M2
theorem s_df12 {r a b z : Int} (M : MX 49 W ρ m A h0 h F V G) (e0 : m_lk lv 0 = some (.ref m)) {lx1 : Int32} (e1 : m_lk lv 1 = some (.int lx1)) (lq1 : lx1.toInt = r) {lx2 : Int32} (e2 : m_lk lv 2 = some (.int lx2)) (lq2 : lx2.toInt = a) {lx3 : Int32} (e3 : m_lk lv 3 = some (.int lx3)) (lq3 : lx3.toInt = b) {sx0 : Int32} (sq0 : sx0.toInt = z) 
    (g0 : ∀ x1 : Int32, x1.toInt = (-1) → z = 0 → Q (some (.int x1)) h)
    (g1 : z ≠ 0 → HJ 207 0 (lv_args 0 [.ref m, .int lx2]) [] h (fun v h' => HJ 253 20 lv (v.toList ++ []) h' Q))
    : HJ 253 12 lv [.int sx0] h Q := by
  refine hM_zeq (off := 23) (t := 35) rfl sq0 (by decide) rfl (fun c12 => ?_) (fun c12 => ?_) -- 12
  · refine hM_ic (n := (-1)) rfl (by decide) rfl (fun x1 q1 => ?_) -- 35
    refine hI_ri rfl rfl ?_ -- 36
    exact g0 x1 q1 c12
  · refine hI_al (k := 0) rfl e0 rfl ?_ -- 15
    refine hI_il (k := 2) rfl e2 rfl ?_ -- 16
    refine hM_iv M (by decide) rfl rfl (by decide) (as := [.int lx2]) (r := []) rfl rfl (by decide +kernel) rfl (by decide +kernel) rfl rfl rfl rfl rfl ?_ -- 17
    exact g1 c12
theorem s_df20 {r a b y : Int} (M : MX 49 W ρ m A h0 h F V G) (e0 : m_lk lv 0 = some (.ref m)) {lx1 : Int32} (e1 : m_lk lv 1 = some (.int lx1)) (lq1 : lx1.toInt = r) {lx2 : Int32} (e2 : m_lk lv 2 = some (.int lx2)) (lq2 : lx2.toInt = a) {lx3 : Int32} (e3 : m_lk lv 3 = some (.int lx3)) (lq3 : lx3.toInt = b) {sx0 : Int32} (sq0 : sx0.toInt = y) 
    (g0 : ∀ x2 : Int32, x2.toInt = (-1) → y > 6 → Q (some (.int x2)) h)
    (g1 : y ≤ 6 → HJ 207 0 (lv_args 0 [.ref m, .int lx3]) [] h (fun v h' => HJ 253 30 lv (v.toList ++ []) h' Q))
    : HJ 253 20 lv [.int sx0] h Q := by
  refine hM_bp (n := 6) rfl (by decide) rfl (fun x1 q1 => ?_) -- 20
  refine hM_cgt (off := 13) (t := 35) rfl sq0 q1 (by decide) rfl (fun c22 => ?_) (fun c22 => ?_) -- 22
  · refine hM_ic (n := (-1)) rfl (by decide) rfl (fun x2 q2 => ?_) -- 35
    refine hI_ri rfl rfl ?_ -- 36
    exact g0 x2 q2 c22
  · refine hI_al (k := 0) rfl e0 rfl ?_ -- 25
    refine hI_il (k := 3) rfl e3 rfl ?_ -- 26
    refine hM_iv M (by decide) rfl rfl (by decide) (as := [.int lx3]) (r := []) rfl rfl (by decide +kernel) rfl (by decide +kernel) rfl rfl rfl rfl rfl ?_ -- 27
    exact g1 c22
theorem s_df30 {r a b y : Int} (M : MX 49 W ρ m A h0 h F V G) (e0 : m_lk lv 0 = some (.ref m)) {lx1 : Int32} (e1 : m_lk lv 1 = some (.int lx1)) (lq1 : lx1.toInt = r) {lx2 : Int32} (e2 : m_lk lv 2 = some (.int lx2)) (lq2 : lx2.toInt = a) {lx3 : Int32} (e3 : m_lk lv 3 = some (.int lx3)) (lq3 : lx3.toInt = b) {sx0 : Int32} (sq0 : sx0.toInt = y) 
    (g0 : y ≤ 6 → HJ 230 0 (lv_args 0 [.ref m, .int lx2]) [] h (fun v h' => HJ 253 42 lv (v.toList ++ []) h' Q))
    (g1 : ∀ x2 : Int32, x2.toInt = (-1) → y > 6 → Q (some (.int x2)) h)
    : HJ 253 30 lv [.int sx0] h Q := by
  refine hM_bp (n := 6) rfl (by decide) rfl (fun x1 q1 => ?_) -- 30
  refine hM_cle (off := 5) (t := 37) rfl sq0 q1 (by decide) rfl (fun c32 => ?_) (fun c32 => ?_) -- 32
  · refine hI_al (k := 0) rfl e0 rfl ?_ -- 37
    refine hI_il (k := 2) rfl e2 rfl ?_ -- 38
    refine hM_iv M (by decide) rfl rfl (by decide) (as := [.int lx2]) (r := []) rfl rfl (by decide +kernel) rfl (by decide +kernel) rfl rfl rfl rfl rfl ?_ -- 39
    exact g0 c32
  · refine hM_ic (n := (-1)) rfl (by decide) rfl (fun x2 q2 => ?_) -- 35
    refine hI_ri rfl rfl ?_ -- 36
    exact g1 x2 q2 c32
theorem s_df42 {r a b : Int} (M : MX 49 W ρ m A h0 h F V G) (e0 : m_lk lv 0 = some (.ref m)) {lx1 : Int32} (e1 : m_lk lv 1 = some (.int lx1)) (lq1 : lx1.toInt = r) {lx2 : Int32} (e2 : m_lk lv 2 = some (.int lx2)) (lq2 : lx2.toInt = a) {lx3 : Int32} (e3 : m_lk lv 3 = some (.int lx3)) (lq3 : lx3.toInt = b) 
    (g0 : HJ 254 0 (lv_args 0 [.ref m]) [] h (fun v h' => HJ 253 46 lv (v.toList ++ []) h' Q))
    : HJ 253 42 lv [] h Q := by
  refine hI_al (k := 0) rfl e0 rfl ?_ -- 42
  refine hM_iv M (by decide) rfl rfl (by decide) (as := []) (r := []) rfl rfl (by decide +kernel) rfl (by decide +kernel) rfl rfl rfl rfl rfl ?_ -- 43
  exact g0 
theorem s_df46 {r a b z : Int} (M : MX 49 W ρ m A h0 h F V G) (e0 : m_lk lv 0 = some (.ref m)) {lx1 : Int32} (e1 : m_lk lv 1 = some (.int lx1)) (lq1 : lx1.toInt = r) {lx2 : Int32} (e2 : m_lk lv 2 = some (.int lx2)) (lq2 : lx2.toInt = a) {lx3 : Int32} (e3 : m_lk lv 3 = some (.int lx3)) (lq3 : lx3.toInt = b) {sx0 : Int32} (sq0 : sx0.toInt = z) (o0 : 0 ≤ F 43) (o1 : F 43 ≤ 6)(hw : d_sub [(49, 51)] W = true)
    (g0 : ∀ h2 : MH, ∀ F2 : Nat → Int, F2 = m_u F 51 (F 43) → ∀ x3 : Int32, x3.toInt = 0 → ∀ lv4 : List (Nat × Value), MX 49 W ρ m A h0 h2 F2 V G → m_lk lv4 0 = some (.ref m) → m_lk lv4 1 = some (.int lx1) → m_lk lv4 2 = some (.int lx2) → m_lk lv4 3 = some (.int lx3) → m_lk lv4 4 = some (.int x3) → z = 0 → 0 ≤ F 43 → F 43 ≤ 63 → HJ 253 62 lv4 [] h2 Q)
    (g1 : ∀ x5 : Int32, x5.toInt = (-1) → z ≠ 0 → Q (some (.int x5)) h)
    : HJ 253 46 lv [.int sx0] h Q := by
  refine hM_zeq (off := 5) (t := 51) rfl sq0 (by decide) rfl (fun c46 => ?_) (fun c46 => ?_) -- 46
  · refine hI_al (k := 0) rfl e0 rfl ?_ -- 51
    refine hI_al (k := 0) rfl e0 rfl ?_ -- 52
    refine hM_gi M (by decide) rfl rfl rfl (k := 43) (c := 9) (lo := 0) (hi := 63) rfl rfl rfl rfl rfl (fun x1 q1 a1 b1 => ?_) -- 53
    refine hM_pi M (by decide) ok_49 rfl rfl (k := 51) (c := 9) (lo := 0) (hi := 6) rfl rfl ⟨by decide, by decide +kernel, rfl⟩ rfl (d_subm hw (by decide +kernel)) q1 (by omega) (by omega) rfl (fun h2 F2 f2 M2 => ?_) -- 56
    refine hM_ic (n := 0) rfl (by decide) rfl (fun x3 q3 => ?_) -- 59
    refine hM_si2 (k := 4) rfl (by decide +kernel) rfl (fun lv4 e4_4 u4 => ?_) -- 60
    have e4_0 := u4 0 _ (by decide) (Or.inl rfl) e0
    have e4_1 := u4 1 _ (by decide) (Or.inl rfl) e1
    have e4_2 := u4 2 _ (by decide) (Or.inl rfl) e2
    have e4_3 := u4 3 _ (by decide) (Or.inl rfl) e3
    exact g0 h2 F2 f2 x3 q3 lv4 M2 e4_0 e4_1 e4_2 e4_3 e4_4 c46 a1 b1
  · refine hM_ic (n := (-1)) rfl (by decide) rfl (fun x5 q5 => ?_) -- 49
    refine hI_ri rfl rfl ?_ -- 50
    exact g1 x5 q5 c46
theorem s_df62 {b i : Int} (M : MX 49 W ρ m A h0 h F V G) (e0 : m_lk lv 0 = some (.ref m)) {lx3 : Int32} (e3 : m_lk lv 3 = some (.int lx3)) (lq3 : lx3.toInt = b) {lx4 : Int32} (e4 : m_lk lv 4 = some (.int lx4)) (lq4 : lx4.toInt = i) (i0 : 0 ≤ i) (a1 : F 51 ≤ 6)(hw : d_sub [(83, 1001), (84, 1001), (85, 1001)] W = true)
    (g0 : 0 ≤ F 51 → F 51 ≤ 6 → i ≥ F 51 → HJ 230 0 (lv_args 0 [.ref m, .int lx3]) [] h (fun v h' => HJ 253 118 lv (v.toList ++ []) h' Q))
    (g1 : ∀ h3 : MH, ∀ V3 : Nat → Nat → Int, V3 = m_u V 52 (m_u (V 52) (i).toNat (V 44 (i).toNat)) → ∀ h5 : MH, ∀ V5 : Nat → Nat → Int, V5 = m_u V3 53 (m_u (V3 53) (i).toNat (V 45 (i).toNat)) → ∀ h7 : MH, ∀ V7 : Nat → Nat → Int, V7 = m_u V5 54 (m_u (V5 54) (i).toNat ((-1))) → ∀ x8 : Int32, x8.toInt = i + 1 → ∀ lv8 : List (Nat × Value), MX 49 W ρ m A h0 h7 F V7 G → m_lk lv8 0 = some (.ref m) → m_lk lv8 3 = some (.int lx3) → m_lk lv8 4 = some (.int x8) → 0 ≤ F 51 → F 51 ≤ 6 → i < F 51 → HJ 253 62 lv8 [] h7 Q)
    : HJ 253 62 lv [] h Q := by
  refine hI_il2 (k := 4) rfl e4 rfl ?_ -- 62
  refine hI_al (k := 0) rfl e0 rfl ?_ -- 64
  refine hM_gi M (by decide) rfl rfl rfl (k := 51) (c := 9) (lo := 0) (hi := 6) rfl rfl rfl rfl rfl (fun x1 q1 a1 b1 => ?_) -- 65
  refine hM_cge (off := 45) (t := 113) rfl lq4 q1 (by decide) rfl (fun c68 => ?_) (fun c68 => ?_) -- 68
  · refine hI_al (k := 0) rfl e0 rfl ?_ -- 113
    refine hI_il (k := 3) rfl e3 rfl ?_ -- 114
    refine hM_iv M (by decide) rfl rfl (by decide) (as := [.int lx3]) (r := []) rfl rfl (by decide +kernel) rfl (by decide +kernel) rfl rfl rfl rfl rfl ?_ -- 115
    exact g0 a1 b1 c68
  · refine hI_al (k := 0) rfl e0 rfl ?_ -- 71
    refine hM_ga M (by decide) rfl rfl (k := 52) (c := 9) rfl rfl rfl (by decide +kernel) rfl ?_ -- 72
    refine hI_il2 (k := 4) rfl e4 rfl ?_ -- 75
    refine hI_al (k := 0) rfl e0 rfl ?_ -- 77
    refine hM_ga M (by decide) rfl rfl (k := 44) (c := 9) rfl rfl rfl (by decide +kernel) rfl ?_ -- 78
    refine hI_il2 (k := 4) rfl e4 rfl ?_ -- 81
    refine hM_ia M (by decide) (K := 44) (R2 := 78) (L := 64) (H := 64) (lo := (-2147483648)) (hi := 2147483647) rfl (by decide) rfl rfl (fun _ => rfl) rfl lq4 (by omega) (by omega) rfl (fun x2 q2 a2 b2 => ?_) -- 83
    refine hM_is M (by decide) ok_49 (K := 52) (R2 := 83) (L := 6) (H := 6) (lo := (-2147483648)) (hi := 2147483647) rfl (by decide) rfl rfl rfl (fun _ => rfl) (d_subm hw (by decide +kernel)) rfl lq4 q2 (by omega) (by omega) (by omega) (by omega) rfl (fun h3 V3 f3 M3 => ?_) -- 84
    refine hI_al (k := 0) rfl e0 rfl ?_ -- 85
    refine hM_ga M3 (by decide) rfl rfl (k := 53) (c := 9) rfl rfl rfl (by decide +kernel) rfl ?_ -- 86
    refine hI_il2 (k := 4) rfl e4 rfl ?_ -- 89
    refine hI_al (k := 0) rfl e0 rfl ?_ -- 91
    refine hM_ga M3 (by decide) rfl rfl (k := 45) (c := 9) rfl rfl rfl (by decide +kernel) rfl ?_ -- 92
    refine hI_il2 (k := 4) rfl e4 rfl ?_ -- 95
    refine hM_ia M3 (by decide) (K := 45) (R2 := 79) (L := 64) (H := 64) (lo := (-2147483648)) (hi := 2147483647) rfl (by decide) rfl rfl (fun _ => rfl) rfl lq4 (by omega) (by omega) rfl (fun x4 q4 a4 b4 => ?_) -- 97
    have q4 : x4.toInt = V 45 (i).toNat := by rw [q4, f3]; rfl
    rw [f3] at a4 b4
    change (-2147483648) ≤ V 45 (i).toNat at a4
    change V 45 (i).toNat ≤ 2147483647 at b4 -- 97
    refine hM_is M3 (by decide) ok_49 (K := 53) (R2 := 84) (L := 6) (H := 6) (lo := (-2147483648)) (hi := 2147483647) rfl (by decide) rfl rfl rfl (fun _ => rfl) (d_subm hw (by decide +kernel)) rfl lq4 q4 (by omega) (by omega) (by omega) (by omega) rfl (fun h5 V5 f5 M5 => ?_) -- 98
    refine hI_al (k := 0) rfl e0 rfl ?_ -- 99
    refine hM_ga M5 (by decide) rfl rfl (k := 54) (c := 9) rfl rfl rfl (by decide +kernel) rfl ?_ -- 100
    refine hI_il2 (k := 4) rfl e4 rfl ?_ -- 103
    refine hM_ic (n := (-1)) rfl (by decide) rfl (fun x6 q6 => ?_) -- 105
    refine hM_is M5 (by decide) ok_49 (K := 54) (R2 := 85) (L := 6) (H := 6) (lo := (-2147483648)) (hi := 2147483647) rfl (by decide) rfl rfl rfl (fun _ => rfl) (d_subm hw (by decide +kernel)) rfl lq4 q6 (by omega) (by omega) (by omega) (by omega) rfl (fun h7 V7 f7 M7 => ?_) -- 106
    refine hM_inc (k := 4) (z := 1) rfl e4 lq4 (by decide) (by omega) (by omega) (by decide +kernel) rfl (fun lv8 x8 q8 e8_4 u8 => ?_) -- 107
    have e8_0 := u8 0 _ (by decide) (Or.inl rfl) e0
    have e8_3 := u8 3 _ (by decide) (Or.inl rfl) e3
    refine hI_go (pc' := 62) (off := (-48)) rfl (by decide) ?_ -- 110
    exact g1 h3 V3 f3 h5 V5 f5 h7 V7 f7 x8 q8 lv8 M7 e8_0 e8_3 e8_4 a1 b1 c68
theorem s_df118 (M : MX 49 W ρ m A h0 h F V G) (e0 : m_lk lv 0 = some (.ref m)) 
    (g0 : HJ 254 0 (lv_args 0 [.ref m]) [] h (fun v h' => HJ 253 122 lv (v.toList ++ []) h' Q))
    : HJ 253 118 lv [] h Q := by
  refine hI_al (k := 0) rfl e0 rfl ?_ -- 118
  refine hM_iv M (by decide) rfl rfl (by decide) (as := []) (r := []) rfl rfl (by decide +kernel) rfl (by decide +kernel) rfl rfl rfl rfl rfl ?_ -- 119
  exact g0 
theorem s_df122 {z : Int} (M : MX 49 W ρ m A h0 h F V G) (e0 : m_lk lv 0 = some (.ref m)) {sx0 : Int32} (sq0 : sx0.toInt = z) 
    (g0 : ∀ x1 : Int32, x1.toInt = F 43 → ∀ x3 : Int32, x3.toInt = 0 → ∀ lv4 : List (Nat × Value), m_lk lv4 0 = some (.ref m) → m_lk lv4 4 = some (.int x1) → m_lk lv4 5 = some (.int x3) → z = 0 → 0 ≤ F 43 → F 43 ≤ 63 → HJ 253 136 lv4 [] h Q)
    (g1 : ∀ x5 : Int32, x5.toInt = (-1) → z ≠ 0 → Q (some (.int x5)) h)
    : HJ 253 122 lv [.int sx0] h Q := by
  refine hM_zeq (off := 5) (t := 127) rfl sq0 (by decide) rfl (fun c122 => ?_) (fun c122 => ?_) -- 122
  · refine hI_al (k := 0) rfl e0 rfl ?_ -- 127
    refine hM_gi M (by decide) rfl rfl rfl (k := 43) (c := 9) (lo := 0) (hi := 63) rfl rfl rfl rfl rfl (fun x1 q1 a1 b1 => ?_) -- 128
    refine hM_si2 (k := 4) rfl (by decide +kernel) rfl (fun lv2 e2_4 u2 => ?_) -- 131
    have e2_0 := u2 0 _ (by decide) (Or.inl rfl) e0
    refine hM_ic (n := 0) rfl (by decide) rfl (fun x3 q3 => ?_) -- 133
    refine hM_si2 (k := 5) rfl (by decide +kernel) rfl (fun lv4 e4_5 u4 => ?_) -- 134
    have e4_0 := u4 0 _ (by decide) (Or.inl rfl) e2_0
    have e4_4 := u4 4 _ (by decide) (Or.inl rfl) e2_4
    exact g0 x1 q1 x3 q3 lv4 e4_0 e4_4 e4_5 c122 a1 b1
  · refine hM_ic (n := (-1)) rfl (by decide) rfl (fun x5 q5 => ?_) -- 125
    refine hI_ri rfl rfl ?_ -- 126
    exact g1 x5 q5 c122
theorem s_df136 {n i : Int} (M : MX 49 W ρ m A h0 h F V G) (e0 : m_lk lv 0 = some (.ref m)) {lx4 : Int32} (e4 : m_lk lv 4 = some (.int lx4)) (lq4 : lx4.toInt = n) {lx5 : Int32} (e5 : m_lk lv 5 = some (.int lx5)) (lq5 : lx5.toInt = i) 
    (g0 : 0 ≤ F 43 → F 43 ≤ 63 → i ≥ F 43 → HJ 255 0 (lv_args 0 [.ref m]) [] h (fun v h' => HJ 253 209 lv (v.toList ++ [.int lx4]) h' Q))
    (g1 : ∀ x2 : Int32, x2.toInt = 0 → ∀ lv3 : List (Nat × Value), m_lk lv3 0 = some (.ref m) → m_lk lv3 4 = some (.int lx4) → m_lk lv3 5 = some (.int lx5) → m_lk lv3 6 = some (.int x2) → 0 ≤ F 43 → F 43 ≤ 63 → i < F 43 → HJ 253 148 lv3 [] h Q)
    : HJ 253 136 lv [] h Q := by
  refine hI_il2 (k := 5) rfl e5 rfl ?_ -- 136
  refine hI_al (k := 0) rfl e0 rfl ?_ -- 138
  refine hM_gi M (by decide) rfl rfl rfl (k := 43) (c := 9) (lo := 0) (hi := 63) rfl rfl rfl rfl rfl (fun x1 q1 a1 b1 => ?_) -- 139
  refine hM_cge (off := 61) (t := 203) rfl lq5 q1 (by decide) rfl (fun c142 => ?_) (fun c142 => ?_) -- 142
  · refine hI_il2 (k := 4) rfl e4 rfl ?_ -- 203
    refine hI_al (k := 0) rfl e0 rfl ?_ -- 205
    refine hM_iv M (by decide) rfl rfl (by decide) (as := []) (r := [.int lx4]) rfl rfl (by decide +kernel) rfl (by decide +kernel) rfl rfl rfl rfl rfl ?_ -- 206
    exact g0 a1 b1 c142
  · refine hM_ic (n := 0) rfl (by decide) rfl (fun x2 q2 => ?_) -- 145
    refine hM_si2 (k := 6) rfl (by decide +kernel) rfl (fun lv3 e3_6 u3 => ?_) -- 146
    have e3_0 := u3 0 _ (by decide) (Or.inl rfl) e0
    have e3_4 := u3 4 _ (by decide) (Or.inl rfl) e4
    have e3_5 := u3 5 _ (by decide) (Or.inl rfl) e5
    exact g1 x2 q2 lv3 e3_0 e3_4 e3_5 e3_6 a1 b1 c142
theorem s_df148 {n i j : Int} (M : MX 49 W ρ m A h0 h F V G) (e0 : m_lk lv 0 = some (.ref m)) {lx4 : Int32} (e4 : m_lk lv 4 = some (.int lx4)) (lq4 : lx4.toInt = n) {lx5 : Int32} (e5 : m_lk lv 5 = some (.int lx5)) (lq5 : lx5.toInt = i) {lx6 : Int32} (e6 : m_lk lv 6 = some (.int lx6)) (lq6 : lx6.toInt = j) (i0 : 0 ≤ i) (i1 : i ≤ 62) (j0 : 0 ≤ j) (a1 : F 51 ≤ 6) (n0 : -2000 ≤ n) (n1 : n ≤ 2147483647)(hw : d_sub [(85, 1001)] W = true)
    (g0 : ∀ x2 : Int32, x2.toInt = i + 1 → ∀ lv2 : List (Nat × Value), m_lk lv2 0 = some (.ref m) → m_lk lv2 4 = some (.int lx4) → m_lk lv2 5 = some (.int x2) → m_lk lv2 6 = some (.int lx6) → 0 ≤ F 51 → F 51 ≤ 6 → j ≥ F 51 → HJ 253 136 lv2 [] h Q)
    (g1 : ∀ x5 : Int32, x5.toInt = j + 1 → ∀ lv5 : List (Nat × Value), m_lk lv5 0 = some (.ref m) → m_lk lv5 4 = some (.int lx4) → m_lk lv5 5 = some (.int lx5) → m_lk lv5 6 = some (.int x5) → 0 ≤ F 51 → F 51 ≤ 6 → j < F 51 → V 52 (j).toNat ≠ V 44 (i).toNat → HJ 253 148 lv5 [] h Q)
    (g2 : ∀ h7 : MH, ∀ V7 : Nat → Nat → Int, V7 = m_u V 54 (m_u (V 54) (j).toNat (V 45 (i).toNat)) → ∀ x8 : Int32, x8.toInt = n + (-1) → ∀ x9 : Int32, x9.toInt = j + 1 → ∀ lv9 : List (Nat × Value), MX 49 W ρ m A h0 h7 F V7 G → m_lk lv9 0 = some (.ref m) → m_lk lv9 4 = some (.int x8) → m_lk lv9 5 = some (.int lx5) → m_lk lv9 6 = some (.int x9) → 0 ≤ F 51 → F 51 ≤ 6 → j < F 51 → V 52 (j).toNat = V 44 (i).toNat → HJ 253 148 lv9 [] h7 Q)
    : HJ 253 148 lv [] h Q := by
  refine hI_il2 (k := 6) rfl e6 rfl ?_ -- 148
  refine hI_al (k := 0) rfl e0 rfl ?_ -- 150
  refine hM_gi M (by decide) rfl rfl rfl (k := 51) (c := 9) (lo := 0) (hi := 6) rfl rfl rfl rfl rfl (fun x1 q1 a1 b1 => ?_) -- 151
  refine hM_cge (off := 43) (t := 197) rfl lq6 q1 (by decide) rfl (fun c154 => ?_) (fun c154 => ?_) -- 154
  · refine hM_inc (k := 5) (z := 1) rfl e5 lq5 (by decide) (by omega) (by omega) (by decide +kernel) rfl (fun lv2 x2 q2 e2_5 u2 => ?_) -- 197
    have e2_0 := u2 0 _ (by decide) (Or.inl rfl) e0
    have e2_4 := u2 4 _ (by decide) (Or.inl rfl) e4
    have e2_6 := u2 6 _ (by decide) (Or.inl rfl) e6
    refine hI_go (pc' := 136) (off := (-64)) rfl (by decide) ?_ -- 200
    exact g0 x2 q2 lv2 e2_0 e2_4 e2_5 e2_6 a1 b1 c154
  · refine hI_al (k := 0) rfl e0 rfl ?_ -- 157
    refine hM_ga M (by decide) rfl rfl (k := 52) (c := 9) rfl rfl rfl (by decide +kernel) rfl ?_ -- 158
    refine hI_il2 (k := 6) rfl e6 rfl ?_ -- 161
    refine hM_ia M (by decide) (K := 52) (R2 := 83) (L := 6) (H := 6) (lo := (-2147483648)) (hi := 2147483647) rfl (by decide) rfl rfl (fun _ => rfl) rfl lq6 (by omega) (by omega) rfl (fun x3 q3 a3 b3 => ?_) -- 163
    refine hI_al (k := 0) rfl e0 rfl ?_ -- 164
    refine hM_ga M (by decide) rfl rfl (k := 44) (c := 9) rfl rfl rfl (by decide +kernel) rfl ?_ -- 165
    refine hI_il2 (k := 5) rfl e5 rfl ?_ -- 168
    refine hM_ia M (by decide) (K := 44) (R2 := 78) (L := 64) (H := 64) (lo := (-2147483648)) (hi := 2147483647) rfl (by decide) rfl rfl (fun _ => rfl) rfl lq5 (by omega) (by omega) rfl (fun x4 q4 a4 b4 => ?_) -- 170
    refine hM_cne (off := 20) (t := 191) rfl q3 q4 (by decide) rfl (fun c171 => ?_) (fun c171 => ?_) -- 171
    · refine hM_inc (k := 6) (z := 1) rfl e6 lq6 (by decide) (by omega) (by omega) (by decide +kernel) rfl (fun lv5 x5 q5 e5_6 u5 => ?_) -- 191
      have e5_0 := u5 0 _ (by decide) (Or.inl rfl) e0
      have e5_4 := u5 4 _ (by decide) (Or.inl rfl) e4
      have e5_5 := u5 5 _ (by decide) (Or.inl rfl) e5
      refine hI_go (pc' := 148) (off := (-46)) rfl (by decide) ?_ -- 194
      exact g1 x5 q5 lv5 e5_0 e5_4 e5_5 e5_6 a1 b1 c154 c171
    · refine hI_al (k := 0) rfl e0 rfl ?_ -- 174
      refine hM_ga M (by decide) rfl rfl (k := 54) (c := 9) rfl rfl rfl (by decide +kernel) rfl ?_ -- 175
      refine hI_il2 (k := 6) rfl e6 rfl ?_ -- 178
      refine hI_al (k := 0) rfl e0 rfl ?_ -- 180
      refine hM_ga M (by decide) rfl rfl (k := 45) (c := 9) rfl rfl rfl (by decide +kernel) rfl ?_ -- 181
      refine hI_il2 (k := 5) rfl e5 rfl ?_ -- 184
      refine hM_ia M (by decide) (K := 45) (R2 := 79) (L := 64) (H := 64) (lo := (-2147483648)) (hi := 2147483647) rfl (by decide) rfl rfl (fun _ => rfl) rfl lq5 (by omega) (by omega) rfl (fun x6 q6 a6 b6 => ?_) -- 186
      refine hM_is M (by decide) ok_49 (K := 54) (R2 := 85) (L := 6) (H := 6) (lo := (-2147483648)) (hi := 2147483647) rfl (by decide) rfl rfl rfl (fun _ => rfl) (d_subm hw (by decide +kernel)) rfl lq6 q6 (by omega) (by omega) (by omega) (by omega) rfl (fun h7 V7 f7 M7 => ?_) -- 187
      refine hM_inc (k := 4) (z := (-1)) rfl e4 lq4 (by decide) (by omega) (by omega) (by decide +kernel) rfl (fun lv8 x8 q8 e8_4 u8 => ?_) -- 188
      have e8_0 := u8 0 _ (by decide) (Or.inl rfl) e0
      have e8_5 := u8 5 _ (by decide) (Or.inl rfl) e5
      have e8_6 := u8 6 _ (by decide) (Or.inl rfl) e6
      refine hM_inc (k := 6) (z := 1) rfl e8_6 lq6 (by decide) (by omega) (by omega) (by decide +kernel) rfl (fun lv9 x9 q9 e9_6 u9 => ?_) -- 191
      have e9_0 := u9 0 _ (by decide) (Or.inl rfl) e8_0
      have e9_5 := u9 5 _ (by decide) (Or.inl rfl) e8_5
      have e9_4 := u9 4 _ (by decide) (Or.inl rfl) e8_4
      refine hI_go (pc' := 148) (off := (-46)) rfl (by decide) ?_ -- 194
      exact g2 h7 V7 f7 x8 q8 x9 q9 lv9 M7 e9_0 e9_4 e9_5 e9_6 a1 b1 c154 c171
theorem s_df209 {n y : Int} (M : MX 49 W ρ m A h0 h F V G) {sx0 : Int32} (sq0 : sx0.toInt = n) {sx1 : Int32} (sq1 : sx1.toInt = y) 
    (g0 : ∀ x1 : Int32, ∀ z1 : Int, x1.toInt = z1 → -2147483648 ≤ z1 → z1 ≤ 2147483647 → Q (some (.int x1)) h)
    : HJ 253 209 lv [.int sx1, .int sx0] h Q := by
  refine hM_addw rfl rfl (fun x1 z1 q1 a1 b1 => ?_) -- 209
  refine hI_ri rfl rfl ?_ -- 210
  exact g0 x1 z1 q1 a1 b1
theorem l_df136 (hw : d_sub [(85, 1001)] W = true) (ws : d_sub g_cts W = true) (g : ∀ (x : Int32) (h' : MH) (F' : Nat → Int) (V' : Nat → Nat → Int), MX 49 W ρ m A h0 h' F' V' G → Q (some (.int x)) h') (a6 : F 51 ≤ 6) : ∀ (d i : Nat) (lv : List (Nat × Value)) (h : MH) (V : Nat → Nat → Int) (xn xi : Int32), i + d = 63 → MX 49 W ρ m A h0 h F V G → -6 * (i : Int) ≤ xn.toInt → xi.toInt = (i : Int) → m_lk lv 0 = some (.ref m) → m_lk lv 4 = some (.int xn) → m_lk lv 5 = some (.int xi) → HJ 253 136 lv [] h Q := by
  have fin : ∀ (lv : List (Nat × Value)) (h : MH) (V : Nat → Nat → Int) (xn : Int32), MX 49 W ρ m A h0 h F V G → HJ 255 0 (lv_args 0 [.ref m]) [] h (fun v h' => HJ 253 209 lv (v.toList ++ [.int xn]) h' Q) := fun lv h V xn M => c_steps M rfl ws (fun x h' F' V' M' => s_df209 (n := xn.toInt) (y := x.toInt) M' rfl rfl (fun x1 z1 q1 a1 b1 => g x1 h' F' V' M'))
  intro d
  induction d with
  | zero =>
    intro i lv h V xn xi hd M hn hi e0 e4 e5
    have b := M.fi (by decide) (k := 43) (lo := 0) (hi := 63) rfl rfl rfl
    exact s_df136 M e0 e4 rfl e5 hi (fun _ _ _ => fin lv h V xn M) (fun x2 q2 lv3 _ _ _ _ _ _ c => by omega)
  | succ d ih =>
    intro i lv h V xn xi hd M hn hi e0 e4 e5
    have inn : ∀ (d j : Nat) (lv : List (Nat × Value)) (h : MH) (V : Nat → Nat → Int) (xn xj : Int32), j + d = 6 → MX 49 W ρ m A h0 h F V G → -6 * (i : Int) - j ≤ xn.toInt → xj.toInt = (j : Int) → m_lk lv 0 = some (.ref m) → m_lk lv 4 = some (.int xn) → m_lk lv 5 = some (.int xi) → m_lk lv 6 = some (.int xj) → HJ 253 148 lv [] h Q := by
      intro d2
      induction d2 with
      | zero =>
        intro j lv h V xn xj hd2 M hn hj e0 e4 e5 e6
        have nT : -2147483648 ≤ xn.toInt ∧ xn.toInt ≤ 2147483647 := g_iT xn
        exact s_df148 M e0 e4 rfl e5 hi e6 hj (by omega) (by omega) (by omega) a6 (by omega) nT.2 hw (fun x2 q2 lv2 d0 d4 d5 _ _ _ _ => ih (i + 1) lv2 h V xn x2 (by omega) M (by omega) (by omega) d0 d4 d5) (fun x5 q5 lv5 _ _ _ _ _ _ c _ => by omega) (fun h7 V7 f7 x8 q8 x9 q9 lv9 M7 _ _ _ _ _ _ c _ => by omega)
      | succ d2 ih2 =>
        intro j lv h V xn xj hd2 M hn hj e0 e4 e5 e6
        have nT : -2147483648 ≤ xn.toInt ∧ xn.toInt ≤ 2147483647 := g_iT xn
        exact s_df148 M e0 e4 rfl e5 hi e6 hj (by omega) (by omega) (by omega) a6 (by omega) nT.2 hw (fun x2 q2 lv2 d0 d4 d5 _ _ _ _ => ih (i + 1) lv2 h V xn x2 (by omega) M (by omega) (by omega) d0 d4 d5) (fun x5 q5 lv5 d0 d4 d5 d6 _ _ _ _ => ih2 (j + 1) lv5 h V xn x5 (by omega) M (by omega) (by omega) d0 d4 d5 d6) (fun h7 V7 f7 x8 q8 x9 q9 lv9 M7 d0 d4 d5 d6 _ _ _ _ => ih2 (j + 1) lv9 h7 V7 x8 x9 (by omega) M7 (by omega) (by omega) d0 d4 d5 d6)
    exact s_df136 M e0 e4 rfl e5 hi (fun _ _ _ => fin lv h V xn M) (fun x2 q2 lv3 d0 d4 d5 d6 _ _ _ => inn 6 0 lv3 h V xn x2 rfl M (by omega) q2 d0 d4 d5 d6)
theorem l_df62 {b : Int} {xb : Int32} {V0 : Nat → Nat → Int} (hw : d_sub [(83, 1001), (84, 1001), (85, 1001)] W = true) (qb : xb.toInt = b) (a6 : F 51 ≤ 6) (g : ∀ (lv : List (Nat × Value)) (h : MH) (V : Nat → Nat → Int), MX 49 W ρ m A h0 h F V G → (∀ K, K < 52 → V K = V0 K) → m_lk lv 0 = some (.ref m) → HJ 230 0 (lv_args 0 [.ref m, .int xb]) [] h (fun v h' => HJ 253 118 lv (v.toList ++ []) h' Q)) : ∀ (d i : Nat) (lv : List (Nat × Value)) (h : MH) (V : Nat → Nat → Int) (xi : Int32), i + d = 6 → MX 49 W ρ m A h0 h F V G → (∀ K, K < 52 → V K = V0 K) → xi.toInt = (i : Int) → m_lk lv 0 = some (.ref m) → m_lk lv 3 = some (.int xb) → m_lk lv 4 = some (.int xi) → HJ 253 62 lv [] h Q := by
  intro d
  induction d with
  | zero =>
    intro i lv h V xi hd M vo hi e0 e3 e4
    exact s_df62 M e0 e3 qb e4 hi (by omega) a6 hw (fun _ _ _ => g lv h V M vo e0) (fun h3 V3 f3 h5 V5 f5 h7 V7 f7 x8 q8 lv8 M7 _ _ _ _ _ c => by omega)
  | succ d ih =>
    intro i lv h V xi hd M vo hi e0 e3 e4
    exact s_df62 M e0 e3 qb e4 hi (by omega) a6 hw (fun _ _ _ => g lv h V M vo e0) (fun h3 V3 f3 h5 V5 f5 h7 V7 f7 x8 q8 lv8 M7 d0 d3 d4 _ _ _ => ih (i + 1) lv8 h7 V7 x8 (by omega) M7 (fun K hK => by rw [f7, m_uN _ _ _ _ (by omega), f5, m_uN _ _ _ _ (by omega), f3, m_uN _ _ _ _ (by omega), vo K hK]) (by omega) d0 d3 d4)
def g_df : List (Nat × Nat) := g_la ++ g_so ++ g_cts ++ [(83, 1001), (84, 1001), (85, 1001), (49, 51), (49, 0)]
theorem c_differ {r a b : Int} {xr xa xb : Int32} (M : MX 49 W ρ m A h0 h F V G) (b0_ : m_lk lv 0 = some (.ref m)) (b1_ : m_lk lv 1 = some (.int xr)) (b2_ : m_lk lv 2 = some (.int xa)) (b3_ : m_lk lv 3 = some (.int xb)) (hw : d_sub g_df W = true) (qr : xr.toInt = r) (qa : xa.toInt = a) (qb : xb.toInt = b) (rw_ : p_rw (V 6)) (g : ∀ (x : Int32) (h' : MH) (F' : Nat → Int) (V' : Nat → Nat → Int) (G' : Nat → Nat → Int64), MX 49 W ρ m A h0 h' F' V' G' → Q (some (.int x)) h') : HJ 253 0 lv [] h Q := by
  have w0 : d_sub [(49, 0)] W = true := d_subm hw (by decide +kernel)
  have w1 : d_sub g_la W = true := d_subm hw (by decide +kernel)
  have w2 : d_sub g_so W = true := d_subm hw (by decide +kernel)
  have w3 : d_sub g_cts W = true := d_subm hw (by decide +kernel)
  have w4 : d_sub [(49, 51)] W = true := d_subm hw (by decide +kernel)
  have w5 : d_sub [(83, 1001), (84, 1001), (85, 1001)] W = true := d_subm hw (by decide +kernel)
  have w6 : d_sub [(85, 1001)] W = true := d_subm hw (by decide +kernel)
  refine s_df0 M b0_ b1_ qr b2_ qa b3_ qb w0 (fun h2 F2 f2 M2 => ?_)
  refine c_layTwo M2 w1 qr qa qb rw_ (fun z h3 F3 V3 G3 M3 hz => ?_)
  refine s_df12 (z := z.toInt) M3 b0_ b1_ qr b2_ qa b3_ qb rfl (fun x _ _ => g x h3 F3 V3 G3 M3) (fun c12 => ?_)
  obtain ⟨-, ⟨⟨i1, i2, i3⟩, i4, i5, i6⟩, ⟨a0, a1⟩, b0, b1⟩ := hz.resolve_left c12
  refine c_sizeAt (v := a.toNat) M3 (by omega) (by omega) (fun y qy => ?_)
  refine s_df20 (y := (p_wv (V3 36) a.toNat : Int)) M3 b0_ b1_ qr b2_ qa b3_ qb qy (fun x _ _ => g x h3 F3 V3 G3 M3) (fun c22 => ?_)
  refine c_sizeAt (v := b.toNat) M3 (by omega) (by omega) (fun y2 qy2 => ?_)
  refine s_df30 (y := (p_wv (V3 36) b.toNat : Int)) M3 b0_ b1_ qr b2_ qa b3_ qb qy2 (fun c32 => ?_) (fun x _ _ => g x h3 F3 V3 G3 M3)
  refine c_sortAll (v := a.toNat) M3 w2 (by omega) (by omega) (by omega) (by omega) i1 i3 (fun h4 F4 V4 M4 f43 fo vo => ?_)
  refine s_df42 M4 b0_ b1_ qr b2_ qa b3_ qb (c_hasTwice M4 (fun z2 => ?_))
  refine s_df46 (z := z2.toInt) M4 b0_ b1_ qr b2_ qa b3_ qb rfl (by omega) (by omega) w4 (fun h5 F5 f5 x3 q3 lv4 M5 e0 e1 e2 e3 e4 _ _ _ => ?_) (fun x _ _ => g x h4 F4 V4 G3 M4)
  have a6 : F5 51 ≤ 6 := by rw [f5, m_uE]; omega
  have k17 : F5 17 = F3 17 := by rw [f5, m_uN _ _ _ _ (by decide), fo 17 (by decide) (by decide)]
  have k35 : F5 35 = F3 35 := by rw [f5, m_uN _ _ _ _ (by decide), fo 35 (by decide) (by decide)]
  refine l_df62 (V0 := V4) w5 qb a6 (fun lv6 h6 V6 M6 vo6 d0 => ?_) 6 0 lv4 h5 V4 x3 rfl M5 (fun _ _ => rfl) q3 e0 e3 e4
  have v22 : V6 22 = V3 22 := by rw [vo6 22 (by decide), vo 22 (by decide)]
  have v23 : V6 23 = V3 23 := by rw [vo6 23 (by decide), vo 23 (by decide)]
  have v36 : V6 36 = V3 36 := by rw [vo6 36 (by decide), vo 36 (by decide)]
  refine c_sortAll (v := b.toNat) M6 w2 (by omega) (by omega) (by omega) (by omega) (by rw [k17, v22, v23]; exact i1) (by rw [k17, k35, v22, v36]; exact i3) (fun h7 F7 V7 M7 f43' fo7 vo7 => ?_)
  refine s_df118 M7 d0 (c_hasTwice M7 (fun z3 => ?_))
  refine s_df122 (z := z3.toInt) M7 d0 rfl (fun x1 q1 x5 q5 lv8 c0 c4 c5 _ _ _ => ?_) (fun x _ _ => g x h7 F7 V7 G3 M7)
  exact l_df136 (F := F7) w6 w3 (fun x h' F' V' M' => g x h' F' V' G3 M') (by rw [fo7 51 (by decide) (by decide)]; exact a6) 63 0 lv8 h7 V7 x1 x5 rfl M7 (by omega) q5 c0 c4 c5
end
end
section
-- THE CLASS'S SHARES BY HAND: the heaviest
def lu_sh (x : Int64) (z : Int) : Int64 := (x.toUInt64 >>> ((Int32.ofInt z).toInt64.toUInt64 &&& Int64.toUInt64 63)).toInt64
section
variable {i pc pc' : Nat} {lv : List (Nat × Value)} {st : List Value} {h : MH} {Q : Option Value → MH → Prop}
theorem hI_ladd {x y : Int64} (a : m_at i pc = some (.ladd, 1)) (hp : pc + 1 = pc') (g : HJ i pc' lv (.long (x + y) :: st) h Q) : HJ i pc lv (.long y :: .long x :: st) h Q := by
  subst hp
  exact HJ.ex a (Or.inl rfl) rfl g
theorem hI_lsub {x y : Int64} (a : m_at i pc = some (.lsub, 1)) (hp : pc + 1 = pc') (g : HJ i pc' lv (.long (x - y) :: st) h Q) : HJ i pc lv (.long y :: .long x :: st) h Q := by
  subst hp
  exact HJ.ex a (Or.inl rfl) rfl g
theorem hI_lneg {x : Int64} (a : m_at i pc = some (.lneg, 1)) (hp : pc + 1 = pc') (g : HJ i pc' lv (.long (-x) :: st) h Q) : HJ i pc lv (.long x :: st) h Q := by
  subst hp
  exact HJ.ex a (Or.inl rfl) rfl g
theorem hM_lushr {x : Int64} {y : Int32} {zy : Int} (a : m_at i pc = some (.lushr, 1)) (hy : y.toInt = zy) (hp : pc + 1 = pc') (g : HJ i pc' lv (.long (lu_sh x zy) :: st) h Q) : HJ i pc lv (.int y :: .long x :: st) h Q := by
  subst hp hy
  unfold lu_sh at g
  rw [Int32.ofInt_toInt] at g
  exact HJ.ex a (Or.inl rfl) rfl g
theorem hM_l2i {x : Int64} (a : m_at i pc = some (.l2i, 1)) (hp : pc + 1 = pc') (g : ∀ w : Int32, w.toInt = x.toInt32.toInt → HJ i pc' lv (.int w :: st) h Q) : HJ i pc lv (.long x :: st) h Q := by
  subst hp
  exact HJ.ex a (Or.inl rfl) rfl (g _ rfl)
theorem hM_iandm {x y : Int32} {zx zy : Int} (a : m_at i pc = some (.iand, 1)) (hx : x.toInt = zx) (hy : y.toInt = zy) (h0 : 0 ≤ zy) (hp : pc + 1 = pc') (g : ∀ (w : Int32) (z : Int), w.toInt = z → 0 ≤ z → z ≤ zy → (zx = 0 → z = 0) → HJ i pc' lv (.int w :: st) h Q) : HJ i pc lv (.int y :: .int x :: st) h Q := by
  subst hy
  obtain ⟨a0, a1⟩ := i_andR x y h0
  refine hI_iand a hp (g _ _ rfl a0 a1 (fun e => ?_))
  have : x = 0 := Int32.toInt_inj.mp (by rw [hx, e]; rfl)
  rw [this, Int32.zero_and]
  rfl
theorem hM_iushr {x y : Int32} (a : m_at i pc = some (.iushr, 1)) (hp : pc + 1 = pc') (g : ∀ (w : Int32) (z : Int), w.toInt = z → -2147483648 ≤ z → z ≤ 2147483647 → HJ i pc' lv (.int w :: st) h Q) : HJ i pc lv (.int y :: .int x :: st) h Q := by
  subst hp
  exact HJ.ex a (Or.inl rfl) rfl (g _ _ rfl (g_iT _).1 (g_iT _).2)
theorem hM_gn {ρ : Nat → Nat} {W : List (Nat × Nat)} {idx nest c k nd R2 : Nat} {rs : RS} {lo hi : Int} (ht : TH c_sp ρ h) (hm : ρ nd = R2) (hR : R2 ≠ 0) (hs : c_sp[R2]? = some rs) (hn : rs.2.2.1 = false) (hc : rs.1.1 = c + 1) (a : m_at i pc = some (.getfield idx, 3)) (hf : m_fl i idx = some (nest, c, k)) (hty : (m_ty c k).1 = 0) (hp0 : r_ft rs k = some (.inl (lo, hi))) (hp : pc + 3 = pc') (g : ∀ (x : Int32) (z : Int), x.toInt = z → lo ≤ z → z ≤ hi → HJ i pc' lv (.int x :: st) h Q) : HJ i pc lv (.ref nd :: st) h Q := hM_gi (MX.start (W := W) ht hm) hR hs hn hc a hf hty hp0 hp (fun x q b0 b1 => g x _ q b0 b1)
end
section
variable {i pc pc' : Nat} {lv : List (Nat × Value)} {st : List Value} {Q : Option Value → MH → Prop} {R : Nat} {W : List (Nat × Nat)} {ρ : Nat → Nat} {m : Nat} {A : Nat → Nat} {h0 h : MH} {F : Nat → Int} {V : Nat → Nat → Int} {G : Nat → Nat → Int64}
-- a row's length stays
theorem MX.len (M : MX R W ρ m A h0 h F V G) (hR : R ≠ 0) {K : Nat} (hK : rg_a R K ≠ 0) : (h_k h (A K)).2 = (h_k h0 (A K)).2 := by
  have := (M.ar hR hK).2.1
  have e : h_n h = h_n h0 := congrArg Prod.fst M.1.2.2.1
  exact congrArg Prod.snd (M.1.2.2.2 (A K) (by omega)).1
theorem hM_al {K R2 L H : Nat} {rs2 : RS} (M : MX R W ρ m A h0 h F V G) (hR : R ≠ 0) (hr : rg_a R K = R2) (h2 : R2 ≠ 0) (hs2 : c_sp[R2]? = some rs2) (hk : rs2.1.2 = (L, H)) (hH : Nat.ble H 2147483647 = true ∧ 20 ≤ rs2.1.1 ∧ rs2.1.1 < 34) (a : m_at i pc = some (.arraylength, 1)) (hp : pc + 1 = pc') (g : ∀ (x : Int32) (z : Int), x.toInt = z → (L : Int) ≤ z → z ≤ (H : Int) → z = ((h_k h0 (A K)).2 : Int) → HJ i pc' lv (.int x :: st) h Q) : HJ i pc lv (.ref (A K) :: st) h Q := by
  have hK : rg_a R K ≠ 0 := by rw [hr]; exact h2
  have a1 := (M.ar hR hK).1
  rw [hr] at a1
  have c := t_spec M.1.1 h2 hs2 a1
  have c0 := c.1
  have c1 := c.2.1
  rw [hk] at c1
  have hHn := Nat.le_of_ble_eq_true hH.1
  have c1 : L ≤ (h_k h (A K)).2 ∧ (h_k h (A K)).2 ≤ H := c1
  subst hp
  have e0 : (Int32.ofNat (h_k h (A K)).2).toInt = ((h_k h (A K)).2 : Int) := by
    rw [Int32.toInt_ofNat_of_lt]
    omega
  refine HJ.ex (pc' := pc + 1) (lv' := lv) (st' := .int (Int32.ofNat (h_k h (A K)).2) :: st) (h' := h) a (Or.inl rfl) ?_ (g (Int32.ofNat (h_k h (A K)).2) _ e0 (by omega) (by omega) (by rw [M.len hR hK]))
  show e_alen pc lv (.ref (A K) :: st) h = _
  unfold e_alen
  dsimp only
  rw [if_pos (by rw [c0]; exact hH.2)]
  rfl
theorem hM_lav {K R2 L H : Nat} {rs2 : RS} {j : Int32} {zj T : Int} (M : MX R W ρ m A h0 h F V G) (hR : R ≠ 0) (hr : rg_a R K = R2) (h2 : R2 ≠ 0) (hs2 : c_sp[R2]? = some rs2) (hk : rs2.1 = (25, (L, H))) (hl : ((h_k h0 (A K)).2 : Int) = T) (a : m_at i pc = some (.laload, 1)) (hj : j.toInt = zj) (b0 : 0 ≤ zj) (b1 : zj < T) (hp : pc + 1 = pc') (g : HJ i pc' lv (.long (G K zj.toNat) :: st) h Q) : HJ i pc lv (.int j :: .ref (A K) :: st) h Q := by
  have hK : rg_a R K ≠ 0 := by rw [hr]; exact h2
  have a1 := (M.ar hR hK).1
  rw [hr] at a1
  have c0 := (t_spec M.1.1 h2 hs2 a1).1
  rw [hk] at c0
  have e9 := M.len hR hK
  refine hI_la a c0 (by omega) (by rw [e9]; omega) hp ?_
  rw [hj, ((M.2.2 K hK).2 _).2]
  exact g
theorem hM_iav {K R2 L H : Nat} {rs2 : RS} {j : Int32} {zj T : Int} (M : MX R W ρ m A h0 h F V G) (hR : R ≠ 0) (hr : rg_a R K = R2) (h2 : R2 ≠ 0) (hs2 : c_sp[R2]? = some rs2) (hk : rs2.1 = (20, (L, H))) (hl : ((h_k h0 (A K)).2 : Int) = T) (a : m_at i pc = some (.iaload, 1)) (hj : j.toInt = zj) (b0 : 0 ≤ zj) (b1 : zj < T) (hp : pc + 1 = pc') (g : ∀ (x : Int32) (z : Int), x.toInt = z → -2147483648 ≤ z → z ≤ 2147483647 → HJ i pc' lv (.int x :: st) h Q) : HJ i pc lv (.int j :: .ref (A K) :: st) h Q := by
  have hK : rg_a R K ≠ 0 := by rw [hr]; exact h2
  have a1 := (M.ar hR hK).1
  rw [hr] at a1
  have c0 := (t_spec M.1.1 h2 hs2 a1).1
  rw [hk] at c0
  have e9 := M.len hR hK
  exact hI_ia a c0 (by omega) (by rw [e9]; omega) hp (g _ _ rfl (g_iT _).1 (g_iT _).2)
theorem hM_isv {K R2 L H : Nat} {rs2 : RS} {j x : Int32} {zj T : Int} (M : MX R W ρ m A h0 h F V G) (hR : R ≠ 0) (ok : rg_okb R = true) (hr : rg_a R K = R2) (h2 : R2 ≠ 0) (hs2 : c_sp[R2]? = some rs2) (hk : rs2.1 = (20, (L, H))) (hmd : rs2.2.1 = true) (hft : ∀ q, r_ft rs2 q = some (.inl (-2147483648, 2147483647))) (hw : d_sub [(R2, 1001)] W = true) (hl : ((h_k h0 (A K)).2 : Int) = T) (a : m_at i pc = some (.iastore, 1)) (hj : j.toInt = zj) (b0 : 0 ≤ zj) (b1 : zj < T) (hp : pc + 1 = pc') (g : ∀ (h' : MH) (V' : Nat → Nat → Int), MX R W ρ m A h0 h' F V' G → HJ i pc' lv st h' Q) : HJ i pc lv (.int x :: .int j :: .ref (A K) :: st) h Q := by
  have hK : rg_a R K ≠ 0 := by rw [hr]; exact h2
  have a1 := (M.ar hR hK).1
  rw [hr] at a1
  have c := t_spec M.1.1 h2 hs2 a1
  have c0 := c.1
  rw [hk] at c0
  have e9 := M.len hR hK
  exact hI_is_ a (c.2.2.1 hmd) c0 (by omega) (by rw [e9]; omega) hp (g _ _ (mx_si M hR ok hr h2 hs2 (hft _) hw (g_iT _).1 (g_iT _).2))
end
theorem ok_25 : rg_okb 25 = true := by decide +kernel
section
variable {lv : List (Nat × Value)} {Q : Option Value → MH → Prop} {W : List (Nat × Nat)} {ρ : Nat → Nat} {m : Nat} {A : Nat → Nat} {h0 h : MH} {F : Nat → Int} {V : Nat → Nat → Int} {G : Nat → Nat → Int64}
theorem s_bc0  {lx0 : Int64} (e0 : m_lk lv 0 = some (.long lx0)) 
    (g0 : ∀ lv2 : List (Nat × Value), m_lk lv2 0 = some (.long (lx0 - ((lu_sh lx0 (1)) &&& (6148914691236517205)))) → HJ 155 10 lv2 [] h Q)
    : HJ 155 0 lv [] h Q := by
  refine hI_ll (k := 0) rfl e0 rfl ?_ -- 0
  refine hI_ll (k := 0) rfl e0 rfl ?_ -- 1
  refine hM_ic (n := 1) rfl (by decide) rfl (fun x1 q1 => ?_) -- 2
  refine hM_lushr rfl q1 rfl ?_ -- 3
  refine hM_jc (x := 6148914691236517205) rfl rfl rfl ?_ -- 4
  refine hI_land rfl rfl ?_ -- 7
  refine hI_lsub rfl rfl ?_ -- 8
  refine hM_sl (k := 0) rfl (by decide +kernel) rfl (fun lv2 e2_0 u2 => ?_) -- 9
  exact g0 lv2 e2_0
theorem s_bc10  {lx0 : Int64} (e0 : m_lk lv 0 = some (.long lx0)) 
    (g0 : ∀ lv2 : List (Nat × Value), m_lk lv2 0 = some (.long ((lx0 &&& (3689348814741910323)) + ((lu_sh lx0 (2)) &&& (3689348814741910323)))) → HJ 155 24 lv2 [] h Q)
    : HJ 155 10 lv [] h Q := by
  refine hI_ll (k := 0) rfl e0 rfl ?_ -- 10
  refine hM_jc (x := 3689348814741910323) rfl rfl rfl ?_ -- 11
  refine hI_land rfl rfl ?_ -- 14
  refine hI_ll (k := 0) rfl e0 rfl ?_ -- 15
  refine hM_ic (n := 2) rfl (by decide) rfl (fun x1 q1 => ?_) -- 16
  refine hM_lushr rfl q1 rfl ?_ -- 17
  refine hM_jc (x := 3689348814741910323) rfl rfl rfl ?_ -- 18
  refine hI_land rfl rfl ?_ -- 21
  refine hI_ladd rfl rfl ?_ -- 22
  refine hM_sl (k := 0) rfl (by decide +kernel) rfl (fun lv2 e2_0 u2 => ?_) -- 23
  exact g0 lv2 e2_0
theorem s_bc24  {lx0 : Int64} (e0 : m_lk lv 0 = some (.long lx0)) 
    (g0 : ∀ lv2 : List (Nat × Value), m_lk lv2 0 = some (.long ((lx0 + (lu_sh lx0 (4))) &&& (1085102592571150095))) → HJ 155 34 lv2 [] h Q)
    : HJ 155 24 lv [] h Q := by
  refine hI_ll (k := 0) rfl e0 rfl ?_ -- 24
  refine hI_ll (k := 0) rfl e0 rfl ?_ -- 25
  refine hM_ic (n := 4) rfl (by decide) rfl (fun x1 q1 => ?_) -- 26
  refine hM_lushr rfl q1 rfl ?_ -- 27
  refine hI_ladd rfl rfl ?_ -- 28
  refine hM_jc (x := 1085102592571150095) rfl rfl rfl ?_ -- 29
  refine hI_land rfl rfl ?_ -- 32
  refine hM_sl (k := 0) rfl (by decide +kernel) rfl (fun lv2 e2_0 u2 => ?_) -- 33
  exact g0 lv2 e2_0
theorem s_bc34  {lx0 : Int64} (e0 : m_lk lv 0 = some (.long lx0)) 
    (g0 : ∀ lv2 : List (Nat × Value), m_lk lv2 0 = some (.long (lx0 + (lu_sh lx0 (8)))) → HJ 155 41 lv2 [] h Q)
    : HJ 155 34 lv [] h Q := by
  refine hI_ll (k := 0) rfl e0 rfl ?_ -- 34
  refine hI_ll (k := 0) rfl e0 rfl ?_ -- 35
  refine hM_bp (n := 8) rfl (by decide) rfl (fun x1 q1 => ?_) -- 36
  refine hM_lushr rfl q1 rfl ?_ -- 38
  refine hI_ladd rfl rfl ?_ -- 39
  refine hM_sl (k := 0) rfl (by decide +kernel) rfl (fun lv2 e2_0 u2 => ?_) -- 40
  exact g0 lv2 e2_0
theorem s_bc41  {lx0 : Int64} (e0 : m_lk lv 0 = some (.long lx0)) 
    (g0 : ∀ lv2 : List (Nat × Value), m_lk lv2 0 = some (.long (lx0 + (lu_sh lx0 (16)))) → HJ 155 48 lv2 [] h Q)
    : HJ 155 41 lv [] h Q := by
  refine hI_ll (k := 0) rfl e0 rfl ?_ -- 41
  refine hI_ll (k := 0) rfl e0 rfl ?_ -- 42
  refine hM_bp (n := 16) rfl (by decide) rfl (fun x1 q1 => ?_) -- 43
  refine hM_lushr rfl q1 rfl ?_ -- 45
  refine hI_ladd rfl rfl ?_ -- 46
  refine hM_sl (k := 0) rfl (by decide +kernel) rfl (fun lv2 e2_0 u2 => ?_) -- 47
  exact g0 lv2 e2_0
theorem s_bc48  {lx0 : Int64} (e0 : m_lk lv 0 = some (.long lx0)) 
    (g0 : ∀ lv2 : List (Nat × Value), m_lk lv2 0 = some (.long (lx0 + (lu_sh lx0 (32)))) → HJ 155 55 lv2 [] h Q)
    : HJ 155 48 lv [] h Q := by
  refine hI_ll (k := 0) rfl e0 rfl ?_ -- 48
  refine hI_ll (k := 0) rfl e0 rfl ?_ -- 49
  refine hM_bp (n := 32) rfl (by decide) rfl (fun x1 q1 => ?_) -- 50
  refine hM_lushr rfl q1 rfl ?_ -- 52
  refine hI_ladd rfl rfl ?_ -- 53
  refine hM_sl (k := 0) rfl (by decide +kernel) rfl (fun lv2 e2_0 u2 => ?_) -- 54
  exact g0 lv2 e2_0
theorem s_bc55  {lx0 : Int64} (e0 : m_lk lv 0 = some (.long lx0)) 
    (g0 : ∀ x3 : Int32, ∀ z3 : Int, x3.toInt = z3 → 0 ≤ z3 → z3 ≤ 127 → ((lx0.toInt32).toInt = 0 → z3 = 0) → Q (some (.int x3)) h)
    : HJ 155 55 lv [] h Q := by
  refine hI_ll (k := 0) rfl e0 rfl ?_ -- 55
  refine hM_l2i rfl rfl (fun x1 q1 => ?_) -- 56
  refine hM_bp (n := 127) rfl (by decide) rfl (fun x2 q2 => ?_) -- 57
  refine hM_iandm rfl q1 q2 (by omega) rfl (fun x3 z3 q3 a3 b3 c3 => ?_) -- 59
  refine hI_ri rfl rfl ?_ -- 60
  exact g0 x3 z3 q3 a3 b3 c3
theorem s_fo0_  {lx0 : Int64} (e0 : m_lk lv 0 = some (.long lx0)) 
    (g0 : (lg_cmp lx0 (Int64.ofNat (0 : Fin 2).val)).toInt ≠ 0 → HJ 154 10 lv [] h Q)
    (g1 : ∀ x2 : Int32, x2.toInt = (-1) → (lg_cmp lx0 (Int64.ofNat (0 : Fin 2).val)).toInt = 0 → Q (some (.int x2)) h)
    : HJ 154 0 lv [] h Q := by
  refine hI_ll (k := 0) rfl e0 rfl ?_ -- 0
  refine hI_lc (n := 0) rfl rfl ?_ -- 1
  refine hM_lcmp rfl rfl (fun x1 q1 => ?_) -- 2
  refine hM_zne (off := 7) (t := 10) rfl q1 (by decide) rfl (fun c3 => ?_) (fun c3 => ?_) -- 3
  · exact g0 c3
  · refine hM_ic (n := (-1)) rfl (by decide) rfl (fun x2 q2 => ?_) -- 6
    refine hI_go (pc' := 19) (off := 12) rfl (by decide) ?_ -- 7
    refine hI_ri rfl rfl ?_ -- 19
    exact g1 x2 q2 c3
theorem s_fo10_  {lx0 : Int64} (e0 : m_lk lv 0 = some (.long lx0)) 
    (g0 : HJ 155 0 (lv_args 0 [.long ((lx0 &&& (-lx0)) - (Int64.ofNat (1 : Fin 2).val))]) [] h (fun v h' => HJ 154 19 lv (v.toList ++ []) h' Q))
    : HJ 154 10 lv [] h Q := by
  refine hI_ll (k := 0) rfl e0 rfl ?_ -- 10
  refine hI_ll (k := 0) rfl e0 rfl ?_ -- 11
  refine hI_lneg rfl rfl ?_ -- 12
  refine hI_land rfl rfl ?_ -- 13
  refine hI_lc (n := 1) rfl rfl ?_ -- 14
  refine hI_lsub rfl rfl ?_ -- 15
  refine hM_is0 (as := [.long ((lx0 &&& (-lx0)) - (Int64.ofNat (1 : Fin 2).val))]) (r := []) rfl rfl (by decide +kernel) rfl rfl rfl rfl rfl ?_ -- 16
  exact g0 
theorem s_fo19_ {y : Int}  {sx0 : Int32} (sq0 : sx0.toInt = y) 
    (g0 : Q (some (.int sx0)) h)
    : HJ 154 19 lv [.int sx0] h Q := by
  refine hI_ri rfl rfl ?_ -- 19
  exact g0 
theorem s_bt {y : Int}  {lx0 : Int32} (e0 : m_lk lv 0 = some (.int lx0)) (lq0 : lx0.toInt = y) 
    (g0 : Q (some (.long ((Int64.ofNat (1 : Fin 2).val) <<< ((Int32.ofInt (y)).toInt64 &&& 63)))) h)
    : HJ 52 0 lv [] h Q := by
  refine hI_lc (n := 1) rfl rfl ?_ -- 0
  refine hI_il (k := 0) rfl e0 rfl ?_ -- 1
  refine hM_lshl rfl lq0 rfl ?_ -- 2
  refine hI_rl rfl rfl ?_
  exact g0 
theorem s_fi0 {z : Int} (M : MX 25 W ρ m A h0 h F V G) (e0 : m_lk lv 0 = some (.ref (A 2))) {lx1 : Int32} (e1 : m_lk lv 1 = some (.int lx1)) (lq1 : lx1.toInt = z) 
    (g0 : ∀ x1 : Int32, x1.toInt = 0 → ∀ x3 : Int32, ∀ z3 : Int, x3.toInt = z3 → 41 ≤ z3 → z3 ≤ 41 → z3 = ((h_k h0 (A 2)).2 : Int) → ∀ lv4 : List (Nat × Value), m_lk lv4 0 = some (.ref (A 2)) → m_lk lv4 1 = some (.int lx1) → m_lk lv4 2 = some (.int x1) → m_lk lv4 3 = some (.int x3) → HJ 48 5 lv4 [] h Q)
    : HJ 48 0 lv [] h Q := by
  refine hM_ic (n := 0) rfl (by decide) rfl (fun x1 q1 => ?_) -- 0
  refine hM_si (k := 2) rfl (by decide +kernel) rfl (fun lv2 e2_2 u2 => ?_) -- 1
  have e2_0 := u2 0 _ (by decide) (Or.inl rfl) e0
  have e2_1 := u2 1 _ (by decide) (Or.inl rfl) e1
  refine hI_al (k := 0) rfl e2_0 rfl ?_ -- 2
  refine hM_al M (by decide) (K := 2) (R2 := 28) (L := 41) (H := 41) rfl (by decide) rfl rfl (by decide) rfl rfl (fun x3 z3 q3 a3 b3 c3 => ?_) -- 3
  refine hM_si (k := 3) rfl (by decide +kernel) rfl (fun lv4 e4_3 u4 => ?_) -- 4
  have e4_0 := u4 0 _ (by decide) (Or.inl rfl) e2_0
  have e4_1 := u4 1 _ (by decide) (Or.inl rfl) e2_1
  have e4_2 := u4 2 _ (by decide) (Or.inl rfl) e2_2
  exact g0 x1 q1 x3 z3 q3 a3 b3 c3 lv4 e4_0 e4_1 e4_2 e4_3
theorem s_fi5 {z i n : Int} (M : MX 25 W ρ m A h0 h F V G) (e0 : m_lk lv 0 = some (.ref (A 2))) {lx1 : Int32} (e1 : m_lk lv 1 = some (.int lx1)) (lq1 : lx1.toInt = z) {lx2 : Int32} (e2 : m_lk lv 2 = some (.int lx2)) (lq2 : lx2.toInt = i) {lx3 : Int32} (e3 : m_lk lv 3 = some (.int lx3)) (lq3 : lx3.toInt = n) (i0 : 0 ≤ i) (n1 : n ≤ 41) (z0 : -2147483648 ≤ z) (z1 : z ≤ 2147483647)(hw : d_sub [(28, 1001)] W = true)
    (g0 : i ≥ n → Q none h)
    (g1 : ∀ h1 : MH, ∀ V1 : Nat → Nat → Int, V1 = m_u V 2 (m_u (V 2) (i).toNat (z)) → ∀ x2 : Int32, x2.toInt = i + 1 → ∀ lv2 : List (Nat × Value), MX 25 W ρ m A h0 h1 F V1 G → m_lk lv2 0 = some (.ref (A 2)) → m_lk lv2 1 = some (.int lx1) → m_lk lv2 2 = some (.int x2) → m_lk lv2 3 = some (.int lx3) → i < n → HJ 48 5 lv2 [] h1 Q)
    : HJ 48 5 lv [] h Q := by
  refine hI_il (k := 2) rfl e2 rfl ?_ -- 5
  refine hI_il (k := 3) rfl e3 rfl ?_ -- 6
  refine hM_cge (off := 13) (t := 20) rfl lq2 lq3 (by decide) rfl (fun c7 => ?_) (fun c7 => ?_) -- 7
  · refine hI_rv rfl rfl ?_
    exact g0 c7
  · refine hI_al (k := 0) rfl e0 rfl ?_ -- 10
    refine hI_il (k := 2) rfl e2 rfl ?_ -- 11
    refine hI_il (k := 1) rfl e1 rfl ?_ -- 12
    refine hM_is M (by decide) ok_25 (K := 2) (R2 := 28) (L := 41) (H := 41) (lo := (-2147483648)) (hi := 2147483647) rfl (by decide) rfl rfl rfl (fun _ => rfl) (d_subm hw (by decide +kernel)) rfl lq2 lq1 (by omega) (by omega) (by omega) (by omega) rfl (fun h1 V1 f1 M1 => ?_) -- 13
    refine hM_inc (k := 2) (z := 1) rfl e2 lq2 (by decide) (by omega) (by omega) (by decide +kernel) rfl (fun lv2 x2 q2 e2_2 u2 => ?_) -- 14
    have e2_0 := u2 0 _ (by decide) (Or.inl rfl) e0
    have e2_1 := u2 1 _ (by decide) (Or.inl rfl) e1
    have e2_3 := u2 3 _ (by decide) (Or.inl rfl) e3
    refine hI_go (pc' := 5) (off := (-12)) rfl (by decide) ?_ -- 17
    exact g1 h1 V1 f1 x2 q2 lv2 M1 e2_0 e2_1 e2_2 e2_3 c7
theorem s_ho_0 {x T : Int} (M : MX 39 W ρ m A h0 h F V G) (e0 : m_lk lv 0 = some (.ref m)) {lx1 : Int32} (e1 : m_lk lv 1 = some (.int lx1)) (lq1 : lx1.toInt = x) (t0 : F 5 ≤ T)(hl1 : ((h_k h0 (A 1)).2 : Int) = T)
    (g0 : x < 0 → Q (some (.long (Int64.ofNat (0 : Fin 2).val))) h)
    (g1 : x ≥ 0 → 0 ≤ F 5 → F 5 ≤ 15120 → x ≥ F 5 → Q (some (.long (Int64.ofNat (0 : Fin 2).val))) h)
    (g2 : x ≥ 0 → 0 ≤ F 5 → F 5 ≤ 15120 → x < F 5 → Q (some (.long (G 1 (x).toNat))) h)
    : HJ 99 0 lv [] h Q := by
  refine hI_il (k := 1) rfl e1 rfl ?_ -- 0
  refine hM_zlt (off := 20) (t := 21) rfl lq1 (by decide) rfl (fun c1 => ?_) (fun c1 => ?_) -- 1
  · refine hI_lc (n := 0) rfl rfl ?_ -- 21
    refine hI_rl rfl rfl ?_
    exact g0 c1
  · refine hI_il (k := 1) rfl e1 rfl ?_ -- 4
    refine hI_al (k := 0) rfl e0 rfl ?_ -- 5
    refine hM_gi M (by decide) rfl rfl rfl (k := 5) (c := 2) (lo := 0) (hi := 15120) rfl rfl rfl rfl rfl (fun x1 q1 a1 b1 => ?_) -- 6
    refine hM_cge (off := 12) (t := 21) rfl lq1 q1 (by decide) rfl (fun c9 => ?_) (fun c9 => ?_) -- 9
    · refine hI_lc (n := 0) rfl rfl ?_ -- 21
      refine hI_rl rfl rfl ?_
      exact g1 c1 a1 b1 c9
    · refine hI_al (k := 0) rfl e0 rfl ?_ -- 12
      refine hM_ga M (by decide) rfl rfl (k := 1) (c := 2) rfl rfl rfl (by decide +kernel) rfl ?_ -- 13
      refine hI_il (k := 1) rfl e1 rfl ?_ -- 16
      refine hM_lav M (by decide) (K := 1) (R2 := 41) (L := 64) (H := 32000) rfl (by decide) rfl rfl hl1 rfl lq1 (by omega) (by omega) rfl ?_ -- 17
      refine hI_go (pc' := 22) (off := 4) rfl (by decide) ?_ -- 18
      refine hI_rl rfl rfl ?_
      exact g2 c1 a1 b1 c9
theorem s_hv0 (M : MX 25 W ρ m A h0 h F V G) (e0 : m_lk lv 0 = some (.ref m)) {nd : Nat} (e1 : m_lk lv 1 = some (.ref nd)) (hnd : ρ nd = 39) {lx2 : Int64} (e2 : m_lk lv 2 = some (.long lx2)) 
    (g0 : ∀ x1 : Int32, x1.toInt = 0 → HJ 48 0 (lv_args 0 [.ref (A 2), .int x1]) [] h (fun v h' => HJ 153 8 lv (v.toList ++ []) h' Q))
    : HJ 153 0 lv [] h Q := by
  refine hI_al (k := 0) rfl e0 rfl ?_ -- 0
  refine hM_ga M (by decide) rfl rfl (k := 2) (c := 5) rfl rfl rfl (by decide +kernel) rfl ?_ -- 1
  refine hM_ic (n := 0) rfl (by decide) rfl (fun x1 q1 => ?_) -- 4
  refine hM_is0 (as := [.ref (A 2), .int x1]) (r := []) rfl rfl (by decide +kernel) rfl rfl rfl rfl rfl ?_ -- 5
  exact g0 x1 q1
theorem s_hv8 (M : MX 25 W ρ m A h0 h F V G) (e0 : m_lk lv 0 = some (.ref m)) {nd : Nat} (e1 : m_lk lv 1 = some (.ref nd)) (hnd : ρ nd = 39) {lx2 : Int64} (e2 : m_lk lv 2 = some (.long lx2)) 
    (g0 : ∀ x1 : Int32, x1.toInt = 0 → ∀ lv2 : List (Nat × Value), m_lk lv2 0 = some (.ref m) → m_lk lv2 1 = some (.ref nd) → m_lk lv2 2 = some (.long lx2) → m_lk lv2 4 = some (.int x1) → HJ 153 11 lv2 [] h Q)
    : HJ 153 8 lv [] h Q := by
  refine hM_ic (n := 0) rfl (by decide) rfl (fun x1 q1 => ?_) -- 8
  refine hM_si2 (k := 4) rfl (by decide +kernel) rfl (fun lv2 e2_4 u2 => ?_) -- 9
  have e2_0 := u2 0 _ (by decide) (Or.inl rfl) e0
  have e2_1 := u2 1 _ (by decide) (Or.inl rfl) e1
  have e2_2 := u2 2 _ (by decide) (Or.inr (by decide)) e2
  exact g0 x1 q1 lv2 e2_0 e2_1 e2_2 e2_4
theorem s_hv11 {i : Int} (M : MX 25 W ρ m A h0 h F V G) (e0 : m_lk lv 0 = some (.ref m)) {nd : Nat} (e1 : m_lk lv 1 = some (.ref nd)) (hnd : ρ nd = 39) {lx2 : Int64} (e2 : m_lk lv 2 = some (.long lx2)) {lx4 : Int32} (e4 : m_lk lv 4 = some (.int lx4)) (lq4 : lx4.toInt = i) 
    (g0 : ∀ z1 : Int, 0 ≤ z1 → z1 ≤ 15120 → i ≥ z1 → HJ 153 70 lv [] h Q)
    (g1 : ∀ z1 : Int, 0 ≤ z1 → z1 ≤ 15120 → i < z1 → HJ 99 0 (lv_args 0 [.ref nd, .int lx4]) [] h (fun v h' => HJ 153 26 lv (v.toList ++ []) h' Q))
    : HJ 153 11 lv [] h Q := by
  refine hI_il2 (k := 4) rfl e4 rfl ?_ -- 11
  refine hI_al (k := 1) rfl e1 rfl ?_ -- 13
  refine hM_gn (W := W) M.1.1 hnd (by decide) rfl rfl rfl (k := 5) (c := 2) (lo := 0) (hi := 15120) rfl rfl rfl rfl rfl (fun x1 z1 q1 a1 b1 => ?_) -- 14
  refine hM_cge (off := 53) (t := 70) rfl lq4 q1 (by decide) rfl (fun c17 => ?_) (fun c17 => ?_) -- 17
  · exact g0 z1 a1 b1 c17
  · refine hI_al (k := 1) rfl e1 rfl ?_ -- 20
    refine hI_il2 (k := 4) rfl e4 rfl ?_ -- 21
    refine hM_iv (MX.start (W := W) M.1.1 hnd) (by decide) rfl rfl (by decide) (as := [.int lx4]) (r := []) rfl rfl (by decide +kernel) rfl (by decide +kernel) rfl rfl rfl rfl rfl ?_ -- 23
    exact g1 z1 a1 b1 c17
theorem s_hv26 {i : Int} (M : MX 25 W ρ m A h0 h F V G) (e0 : m_lk lv 0 = some (.ref m)) {nd : Nat} (e1 : m_lk lv 1 = some (.ref nd)) (hnd : ρ nd = 39) {lx2 : Int64} (e2 : m_lk lv 2 = some (.long lx2)) {lx4 : Int32} (e4 : m_lk lv 4 = some (.int lx4)) (lq4 : lx4.toInt = i) {sx0 : Int64} 
    (g0 : ∀ lv1 : List (Nat × Value), m_lk lv1 0 = some (.ref m) → m_lk lv1 1 = some (.ref nd) → m_lk lv1 2 = some (.long lx2) → m_lk lv1 4 = some (.int lx4) → m_lk lv1 5 = some (.long (sx0 &&& lx2)) → HJ 154 0 (lv_args 0 [.long (sx0 &&& lx2)]) [] h (fun v h' => HJ 153 35 lv1 (v.toList ++ []) h' Q))
    : HJ 153 26 lv [.long sx0] h Q := by
  refine hI_ll (k := 2) rfl e2 rfl ?_ -- 26
  refine hI_land rfl rfl ?_ -- 27
  refine hM_sl2 (k := 5) rfl (by decide +kernel) rfl (fun lv1 e1_5 u1 => ?_) -- 28
  have e1_0 := u1 0 _ (by decide) (by decide) (Or.inl rfl) e0
  have e1_1 := u1 1 _ (by decide) (by decide) (Or.inl rfl) e1
  have e1_2 := u1 2 _ (by decide) (by decide) (Or.inr (by decide)) e2
  have e1_4 := u1 4 _ (by decide) (by decide) (Or.inl rfl) e4
  refine hI_ll2 (k := 5) rfl e1_5 rfl ?_ -- 30
  refine hM_is0 (as := [.long (sx0 &&& lx2)]) (r := []) rfl rfl (by decide +kernel) rfl rfl rfl rfl rfl ?_ -- 32
  exact g0 lv1 e1_0 e1_1 e1_2 e1_4 e1_5
theorem s_hv35 {i x : Int} (M : MX 25 W ρ m A h0 h F V G) (e0 : m_lk lv 0 = some (.ref m)) {nd : Nat} (e1 : m_lk lv 1 = some (.ref nd)) (hnd : ρ nd = 39) {lx2 : Int64} (e2 : m_lk lv 2 = some (.long lx2)) {lx4 : Int32} (e4 : m_lk lv 4 = some (.int lx4)) (lq4 : lx4.toInt = i) {lx5 : Int64} (e5 : m_lk lv 5 = some (.long lx5)) {sx0 : Int32} (sq0 : sx0.toInt = x) 
    (g0 : ∀ lv1 : List (Nat × Value), m_lk lv1 0 = some (.ref m) → m_lk lv1 1 = some (.ref nd) → m_lk lv1 2 = some (.long lx2) → m_lk lv1 4 = some (.int lx4) → m_lk lv1 5 = some (.long lx5) → m_lk lv1 7 = some (.int sx0) → HJ 155 0 (lv_args 0 [.long lx5]) [] h (fun v h' => HJ 153 42 lv1 (v.toList ++ []) h' Q))
    : HJ 153 35 lv [.int sx0] h Q := by
  refine hM_si2 (k := 7) rfl (by decide +kernel) rfl (fun lv1 e1_7 u1 => ?_) -- 35
  have e1_0 := u1 0 _ (by decide) (Or.inl rfl) e0
  have e1_1 := u1 1 _ (by decide) (Or.inl rfl) e1
  have e1_2 := u1 2 _ (by decide) (Or.inr (by decide)) e2
  have e1_4 := u1 4 _ (by decide) (Or.inl rfl) e4
  have e1_5 := u1 5 _ (by decide) (Or.inr (by decide)) e5
  refine hI_ll2 (k := 5) rfl e1_5 rfl ?_ -- 37
  refine hM_is0 (as := [.long lx5]) (r := []) rfl rfl (by decide +kernel) rfl rfl rfl rfl rfl ?_ -- 39
  exact g0 lv1 e1_0 e1_1 e1_2 e1_4 e1_5 e1_7
theorem s_hv42 {i x z : Int} (M : MX 25 W ρ m A h0 h F V G) (e0 : m_lk lv 0 = some (.ref m)) {nd : Nat} (e1 : m_lk lv 1 = some (.ref nd)) (hnd : ρ nd = 39) {lx2 : Int64} (e2 : m_lk lv 2 = some (.long lx2)) {lx4 : Int32} (e4 : m_lk lv 4 = some (.int lx4)) (lq4 : lx4.toInt = i) {lx7 : Int32} (e7 : m_lk lv 7 = some (.int lx7)) (lq7 : lx7.toInt = x) {sx0 : Int32} (sq0 : sx0.toInt = z) (zx : z = 1 → 0 ≤ x) (i0 : 0 ≤ i) (i1 : i ≤ 15120)(hw : d_sub [(28, 1001)] W = true)
    (g0 : ∀ x2 : Int32, x2.toInt = i + 1 → ∀ lv2 : List (Nat × Value), m_lk lv2 0 = some (.ref m) → m_lk lv2 1 = some (.ref nd) → m_lk lv2 2 = some (.long lx2) → m_lk lv2 4 = some (.int x2) → z ≠ 1 → HJ 153 11 lv2 [] h Q)
    (g1 : ∀ x4 : Int32, x4.toInt = i + 1 → ∀ lv4 : List (Nat × Value), m_lk lv4 0 = some (.ref m) → m_lk lv4 1 = some (.ref nd) → m_lk lv4 2 = some (.long lx2) → m_lk lv4 4 = some (.int x4) → z = 1 → x ≥ 41 → HJ 153 11 lv4 [] h Q)
    (g2 : ∀ z7 : Int, -2147483648 ≤ z7 → z7 ≤ 2147483647 → ∀ h8 : MH, ∀ V8 : Nat → Nat → Int, V8 = m_u V 2 (m_u (V 2) (x).toNat (z7)) → ∀ x9 : Int32, x9.toInt = i + 1 → ∀ lv9 : List (Nat × Value), MX 25 W ρ m A h0 h8 F V8 G → m_lk lv9 0 = some (.ref m) → m_lk lv9 1 = some (.ref nd) → m_lk lv9 2 = some (.long lx2) → m_lk lv9 4 = some (.int x9) → z = 1 → x < 41 → HJ 153 11 lv9 [] h8 Q)
    : HJ 153 42 lv [.int sx0] h Q := by
  refine hM_ic (n := 1) rfl (by decide) rfl (fun x1 q1 => ?_) -- 42
  refine hM_cne (off := 21) (t := 64) rfl sq0 q1 (by decide) rfl (fun c43 => ?_) (fun c43 => ?_) -- 43
  · refine hM_inc (k := 4) (z := 1) rfl e4 lq4 (by decide) (by omega) (by omega) (by decide +kernel) rfl (fun lv2 x2 q2 e2_4 u2 => ?_) -- 64
    have e2_0 := u2 0 _ (by decide) (Or.inl rfl) e0
    have e2_1 := u2 1 _ (by decide) (Or.inl rfl) e1
    have e2_2 := u2 2 _ (by decide) (Or.inr (by decide)) e2
    have e2_7 := u2 7 _ (by decide) (Or.inl rfl) e7
    refine hI_go (pc' := 11) (off := (-56)) rfl (by decide) ?_ -- 67
    exact g0 x2 q2 lv2 e2_0 e2_1 e2_2 e2_4 c43
  · refine hI_il2 (k := 7) rfl e7 rfl ?_ -- 46
    refine hM_bp (n := 41) rfl (by decide) rfl (fun x3 q3 => ?_) -- 48
    refine hM_cge (off := 14) (t := 64) rfl lq7 q3 (by decide) rfl (fun c50 => ?_) (fun c50 => ?_) -- 50
    · refine hM_inc (k := 4) (z := 1) rfl e4 lq4 (by decide) (by omega) (by omega) (by decide +kernel) rfl (fun lv4 x4 q4 e4_4 u4 => ?_) -- 64
      have e4_0 := u4 0 _ (by decide) (Or.inl rfl) e0
      have e4_1 := u4 1 _ (by decide) (Or.inl rfl) e1
      have e4_2 := u4 2 _ (by decide) (Or.inr (by decide)) e2
      have e4_7 := u4 7 _ (by decide) (Or.inl rfl) e7
      refine hI_go (pc' := 11) (off := (-56)) rfl (by decide) ?_ -- 67
      exact g1 x4 q4 lv4 e4_0 e4_1 e4_2 e4_4 c43 c50
    · refine hI_al (k := 0) rfl e0 rfl ?_ -- 53
      refine hM_ga M (by decide) rfl rfl (k := 2) (c := 5) rfl rfl rfl (by decide +kernel) rfl ?_ -- 54
      refine hI_il2 (k := 7) rfl e7 rfl ?_ -- 57
      refine hI_dup2 rfl rfl rfl rfl ?_ -- 59
      refine hM_ia M (by decide) (K := 2) (R2 := 28) (L := 41) (H := 41) (lo := (-2147483648)) (hi := 2147483647) rfl (by decide) rfl rfl (fun _ => rfl) rfl lq7 (by omega) (by omega) rfl (fun x5 q5 a5 b5 => ?_) -- 60
      refine hM_ic (n := 1) rfl (by decide) rfl (fun x6 q6 => ?_) -- 61
      refine hM_addw rfl rfl (fun x7 z7 q7 a7 b7 => ?_) -- 62
      refine hM_is M (by decide) ok_25 (K := 2) (R2 := 28) (L := 41) (H := 41) (lo := (-2147483648)) (hi := 2147483647) rfl (by decide) rfl rfl rfl (fun _ => rfl) (d_subm hw (by decide +kernel)) rfl lq7 q7 (by omega) (by omega) (by omega) (by omega) rfl (fun h8 V8 f8 M8 => ?_) -- 63
      refine hM_inc (k := 4) (z := 1) rfl e4 lq4 (by decide) (by omega) (by omega) (by decide +kernel) rfl (fun lv9 x9 q9 e9_4 u9 => ?_) -- 64
      have e9_0 := u9 0 _ (by decide) (Or.inl rfl) e0
      have e9_1 := u9 1 _ (by decide) (Or.inl rfl) e1
      have e9_2 := u9 2 _ (by decide) (Or.inr (by decide)) e2
      have e9_7 := u9 7 _ (by decide) (Or.inl rfl) e7
      refine hI_go (pc' := 11) (off := (-56)) rfl (by decide) ?_ -- 67
      exact g2 z7 a7 b7 h8 V8 f8 x9 q9 lv9 M8 e9_0 e9_1 e9_2 e9_4 c43 c50
theorem s_hv70 (M : MX 25 W ρ m A h0 h F V G) (e0 : m_lk lv 0 = some (.ref m)) {lx2 : Int64} (e2 : m_lk lv 2 = some (.long lx2)) 
    (g0 : ∀ x1 : Int32, x1.toInt = (-1) → ∀ x3 : Int32, x3.toInt = 0 → ∀ lv4 : List (Nat × Value), m_lk lv4 0 = some (.ref m) → m_lk lv4 2 = some (.long lx2) → m_lk lv4 4 = some (.int x1) → m_lk lv4 5 = some (.int x3) → HJ 153 76 lv4 [] h Q)
    : HJ 153 70 lv [] h Q := by
  refine hM_ic (n := (-1)) rfl (by decide) rfl (fun x1 q1 => ?_) -- 70
  refine hM_si2 (k := 4) rfl (by decide +kernel) rfl (fun lv2 e2_4 u2 => ?_) -- 71
  have e2_0 := u2 0 _ (by decide) (Or.inl rfl) e0
  have e2_2 := u2 2 _ (by decide) (Or.inr (by decide)) e2
  refine hM_ic (n := 0) rfl (by decide) rfl (fun x3 q3 => ?_) -- 73
  refine hM_si2 (k := 5) rfl (by decide +kernel) rfl (fun lv4 e4_5 u4 => ?_) -- 74
  have e4_0 := u4 0 _ (by decide) (Or.inl rfl) e2_0
  have e4_2 := u4 2 _ (by decide) (Or.inr (by decide)) e2_2
  have e4_4 := u4 4 _ (by decide) (Or.inl rfl) e2_4
  exact g0 x1 q1 x3 q3 lv4 e4_0 e4_2 e4_4 e4_5
theorem s_hv76 {b v : Int} (M : MX 25 W ρ m A h0 h F V G) (e0 : m_lk lv 0 = some (.ref m)) {lx2 : Int64} (e2 : m_lk lv 2 = some (.long lx2)) {lx4 : Int32} (e4 : m_lk lv 4 = some (.int lx4)) (lq4 : lx4.toInt = b) {lx5 : Int32} (e5 : m_lk lv 5 = some (.int lx5)) (lq5 : lx5.toInt = v) 
    (g0 : v ≥ 41 → Q (some (.int lx4)) h)
    (g1 : v < 41 → HJ 52 0 (lv_args 0 [.int lx5]) [] h (fun v h' => HJ 153 89 lv (v.toList ++ [.long lx2]) h' Q))
    : HJ 153 76 lv [] h Q := by
  refine hI_il2 (k := 5) rfl e5 rfl ?_ -- 76
  refine hM_bp (n := 41) rfl (by decide) rfl (fun x1 q1 => ?_) -- 78
  refine hM_cge (off := 48) (t := 128) rfl lq5 q1 (by decide) rfl (fun c80 => ?_) (fun c80 => ?_) -- 80
  · refine hI_il2 (k := 4) rfl e4 rfl ?_ -- 128
    refine hI_ri rfl rfl ?_ -- 130
    exact g0 c80
  · refine hI_ll (k := 2) rfl e2 rfl ?_ -- 83
    refine hI_il2 (k := 5) rfl e5 rfl ?_ -- 84
    refine hM_is0 (as := [.int lx5]) (r := [.long lx2]) rfl rfl (by decide +kernel) rfl rfl rfl rfl rfl ?_ -- 86
    exact g1 c80
theorem s_hv89 {b v : Int} (M : MX 25 W ρ m A h0 h F V G) (e0 : m_lk lv 0 = some (.ref m)) {lx2 : Int64} (e2 : m_lk lv 2 = some (.long lx2)) {lx4 : Int32} (e4 : m_lk lv 4 = some (.int lx4)) (lq4 : lx4.toInt = b) {lx5 : Int32} (e5 : m_lk lv 5 = some (.int lx5)) (lq5 : lx5.toInt = v) {sx0 : Int64} {sx1 : Int64} (b0 : -1 ≤ b) (b1 : b ≤ 40) (v0 : 0 ≤ v) (v1 : v ≤ 40)
    (g0 : ∀ x2 : Int32, x2.toInt = v + 1 → ∀ lv2 : List (Nat × Value), m_lk lv2 0 = some (.ref m) → m_lk lv2 2 = some (.long lx2) → m_lk lv2 4 = some (.int lx4) → m_lk lv2 5 = some (.int x2) → (lg_cmp (sx0 &&& sx1) (Int64.ofNat (0 : Fin 2).val)).toInt = 0 → HJ 153 76 lv2 [] h Q)
    (g1 : ∀ x5 : Int32, x5.toInt = v + 1 → ∀ lv5 : List (Nat × Value), m_lk lv5 0 = some (.ref m) → m_lk lv5 2 = some (.long lx2) → m_lk lv5 4 = some (.int lx5) → m_lk lv5 5 = some (.int x5) → (lg_cmp (sx0 &&& sx1) (Int64.ofNat (0 : Fin 2).val)).toInt ≠ 0 → b = (-1) → HJ 153 76 lv5 [] h Q)
    (g2 : ∀ x8 : Int32, x8.toInt = v + 1 → ∀ lv8 : List (Nat × Value), m_lk lv8 0 = some (.ref m) → m_lk lv8 2 = some (.long lx2) → m_lk lv8 4 = some (.int lx4) → m_lk lv8 5 = some (.int x8) → (lg_cmp (sx0 &&& sx1) (Int64.ofNat (0 : Fin 2).val)).toInt ≠ 0 → b ≠ (-1) → V 2 (v).toNat ≤ V 2 (b).toNat → HJ 153 76 lv8 [] h Q)
    (g3 : ∀ x10 : Int32, x10.toInt = v + 1 → ∀ lv10 : List (Nat × Value), m_lk lv10 0 = some (.ref m) → m_lk lv10 2 = some (.long lx2) → m_lk lv10 4 = some (.int lx5) → m_lk lv10 5 = some (.int x10) → (lg_cmp (sx0 &&& sx1) (Int64.ofNat (0 : Fin 2).val)).toInt ≠ 0 → b ≠ (-1) → V 2 (v).toNat > V 2 (b).toNat → HJ 153 76 lv10 [] h Q)
    : HJ 153 89 lv [.long sx1, .long sx0] h Q := by
  refine hI_land rfl rfl ?_ -- 89
  refine hI_lc (n := 0) rfl rfl ?_ -- 90
  refine hM_lcmp rfl rfl (fun x1 q1 => ?_) -- 91
  refine hM_zeq (off := 30) (t := 122) rfl q1 (by decide) rfl (fun c92 => ?_) (fun c92 => ?_) -- 92
  · refine hM_inc (k := 5) (z := 1) rfl e5 lq5 (by decide) (by omega) (by omega) (by decide +kernel) rfl (fun lv2 x2 q2 e2_5 u2 => ?_) -- 122
    have e2_0 := u2 0 _ (by decide) (Or.inl rfl) e0
    have e2_2 := u2 2 _ (by decide) (Or.inr (by decide)) e2
    have e2_4 := u2 4 _ (by decide) (Or.inl rfl) e4
    refine hI_go (pc' := 76) (off := (-49)) rfl (by decide) ?_ -- 125
    exact g0 x2 q2 lv2 e2_0 e2_2 e2_4 e2_5 c92
  · refine hI_il2 (k := 4) rfl e4 rfl ?_ -- 95
    refine hM_ic (n := (-1)) rfl (by decide) rfl (fun x3 q3 => ?_) -- 97
    refine hM_ceq (off := 20) (t := 118) rfl lq4 q3 (by decide) rfl (fun c98 => ?_) (fun c98 => ?_) -- 98
    · refine hI_il2 (k := 5) rfl e5 rfl ?_ -- 118
      refine hM_si2 (k := 4) rfl (by decide +kernel) rfl (fun lv4 e4_4 u4 => ?_) -- 120
      have e4_0 := u4 0 _ (by decide) (Or.inl rfl) e0
      have e4_2 := u4 2 _ (by decide) (Or.inr (by decide)) e2
      have e4_5 := u4 5 _ (by decide) (Or.inl rfl) e5
      refine hM_inc (k := 5) (z := 1) rfl e4_5 lq5 (by decide) (by omega) (by omega) (by decide +kernel) rfl (fun lv5 x5 q5 e5_5 u5 => ?_) -- 122
      have e5_0 := u5 0 _ (by decide) (Or.inl rfl) e4_0
      have e5_2 := u5 2 _ (by decide) (Or.inr (by decide)) e4_2
      have e5_4 := u5 4 _ (by decide) (Or.inl rfl) e4_4
      refine hI_go (pc' := 76) (off := (-49)) rfl (by decide) ?_ -- 125
      exact g1 x5 q5 lv5 e5_0 e5_2 e5_4 e5_5 c92 c98
    · refine hI_al (k := 0) rfl e0 rfl ?_ -- 101
      refine hM_ga M (by decide) rfl rfl (k := 2) (c := 5) rfl rfl rfl (by decide +kernel) rfl ?_ -- 102
      refine hI_il2 (k := 5) rfl e5 rfl ?_ -- 105
      refine hM_ia M (by decide) (K := 2) (R2 := 28) (L := 41) (H := 41) (lo := (-2147483648)) (hi := 2147483647) rfl (by decide) rfl rfl (fun _ => rfl) rfl lq5 (by omega) (by omega) rfl (fun x6 q6 a6 b6 => ?_) -- 107
      refine hI_al (k := 0) rfl e0 rfl ?_ -- 108
      refine hM_ga M (by decide) rfl rfl (k := 2) (c := 5) rfl rfl rfl (by decide +kernel) rfl ?_ -- 109
      refine hI_il2 (k := 4) rfl e4 rfl ?_ -- 112
      refine hM_ia M (by decide) (K := 2) (R2 := 28) (L := 41) (H := 41) (lo := (-2147483648)) (hi := 2147483647) rfl (by decide) rfl rfl (fun _ => rfl) rfl lq4 (by omega) (by omega) rfl (fun x7 q7 a7 b7 => ?_) -- 114
      refine hM_cle (off := 7) (t := 122) rfl q6 q7 (by decide) rfl (fun c115 => ?_) (fun c115 => ?_) -- 115
      · refine hM_inc (k := 5) (z := 1) rfl e5 lq5 (by decide) (by omega) (by omega) (by decide +kernel) rfl (fun lv8 x8 q8 e8_5 u8 => ?_) -- 122
        have e8_0 := u8 0 _ (by decide) (Or.inl rfl) e0
        have e8_2 := u8 2 _ (by decide) (Or.inr (by decide)) e2
        have e8_4 := u8 4 _ (by decide) (Or.inl rfl) e4
        refine hI_go (pc' := 76) (off := (-49)) rfl (by decide) ?_ -- 125
        exact g2 x8 q8 lv8 e8_0 e8_2 e8_4 e8_5 c92 c98 c115
      · refine hI_il2 (k := 5) rfl e5 rfl ?_ -- 118
        refine hM_si2 (k := 4) rfl (by decide +kernel) rfl (fun lv9 e9_4 u9 => ?_) -- 120
        have e9_0 := u9 0 _ (by decide) (Or.inl rfl) e0
        have e9_2 := u9 2 _ (by decide) (Or.inr (by decide)) e2
        have e9_5 := u9 5 _ (by decide) (Or.inl rfl) e5
        refine hM_inc (k := 5) (z := 1) rfl e9_5 lq5 (by decide) (by omega) (by omega) (by decide +kernel) rfl (fun lv10 x10 q10 e10_5 u10 => ?_) -- 122
        have e10_0 := u10 0 _ (by decide) (Or.inl rfl) e9_0
        have e10_2 := u10 2 _ (by decide) (Or.inr (by decide)) e9_2
        have e10_4 := u10 4 _ (by decide) (Or.inl rfl) e9_4
        refine hI_go (pc' := 76) (off := (-49)) rfl (by decide) ?_ -- 125
        exact g3 x10 q10 lv10 e10_0 e10_2 e10_4 e10_5 c92 c98 c115
theorem lg_eq {x y : Int64} (e : (lg_cmp x y).toInt = 0) : x = y := by
  unfold lg_cmp at e
  split at e
  · exact absurd e (by decide)
  · split at e
    · next q => exact q
    · exact absurd e (by decide)
theorem c_bc {y : Int64} (g : ∀ x : Int32, 0 ≤ x.toInt → x.toInt ≤ 127 → (y = 0 → x.toInt = 0) → Q (some (.int x)) h) : HJ 155 0 (lv_args 0 [.long y]) [] h Q :=
  s_bc0 (lx0 := y) rfl (fun _ a1 => s_bc10 a1 (fun _ a2 => s_bc24 a2 (fun _ a3 => s_bc34 a3 (fun _ a4 => s_bc41 a4 (fun _ a5 => s_bc48 a5 (fun _ a6 => s_bc55 a6 (fun x z q b0 b1 c => g x (by omega) (by omega) (fun e => by
    rw [q]
    exact c (by subst e; decide +kernel)))))))))
theorem c_first {y : Int64} (g : ∀ x : Int32, -1 ≤ x.toInt → x.toInt ≤ 127 → (y ≠ 0 → 0 ≤ x.toInt) → Q (some (.int x)) h) : HJ 154 0 (lv_args 0 [.long y]) [] h Q :=
  s_fo0_ (lx0 := y) rfl (fun c3 => s_fo10_ (lx0 := y) rfl (c_bc (fun x b0 b1 _ => s_fo19_ (y := x.toInt) rfl (g x (by omega) b1 (fun _ => b0))))) (fun x q c => g x (by omega) (by omega) (fun e => absurd (lg_eq c) e))
theorem c_bit {x : Int32} (g : ∀ y : Int64, Q (some (.long y)) h) : HJ 52 0 (lv_args 0 [.int x]) [] h Q := s_bt (y := x.toInt) rfl rfl (g _)
theorem l_fi {xz : Int32} (hw : d_sub [(28, 1001)] W = true) (g : ∀ (h : MH) (V : Nat → Nat → Int), MX 25 W ρ m A h0 h F V G → Q none h) : ∀ (d i : Nat) (lv : List (Nat × Value)) (h : MH) (V : Nat → Nat → Int) (xi xn : Int32), i + d = 41 → MX 25 W ρ m A h0 h F V G → xi.toInt = (i : Int) → xn.toInt = 41 → m_lk lv 0 = some (.ref (A 2)) → m_lk lv 1 = some (.int xz) → m_lk lv 2 = some (.int xi) → m_lk lv 3 = some (.int xn) → HJ 48 5 lv [] h Q := by
  intro d
  have zT : -2147483648 ≤ xz.toInt ∧ xz.toInt ≤ 2147483647 := g_iT xz
  induction d with
  | zero =>
    intro i lv h V xi xn hd M qi qn e0 e1 e2 e3
    exact s_fi5 M e0 e1 rfl e2 qi e3 qn (by omega) (by omega) zT.1 zT.2 hw (fun _ => g h V M) (fun h1 V1 f1 x2 q2 lv2 M1 _ _ _ _ c => by omega)
  | succ d ih =>
    intro i lv h V xi xn hd M qi qn e0 e1 e2 e3
    exact s_fi5 M e0 e1 rfl e2 qi e3 qn (by omega) (by omega) zT.1 zT.2 hw (fun _ => g h V M) (fun h1 V1 f1 x2 q2 lv2 M1 d0 d1 d2 d3 _ => ih (i + 1) lv2 h1 V1 x2 xn (by omega) M1 (by omega) qn d0 d1 d2 d3)
theorem c_fill {xz : Int32} (M : MX 25 W ρ m A h0 h F V G) (hw : d_sub [(28, 1001)] W = true) (g : ∀ (h' : MH) (V' : Nat → Nat → Int), MX 25 W ρ m A h0 h' F V' G → Q none h') : HJ 48 0 (lv_args 0 [.ref (A 2), .int xz]) [] h Q :=
  s_fi0 M rfl rfl rfl (fun x1 q1 x3 z3 q3 a3 b3 _ lv4 d0 d1 d2 d3 => l_fi hw g 41 0 lv4 h V x1 x3 rfl M q1 (by omega) d0 d1 d2 d3)
theorem c_hold99 {nd : Nat} {x : Int32} (ht : TH c_sp ρ h) (hnd : ρ nd = 39) (t1 : t_nd ρ h) (g : ∀ y : Int64, Q (some (.long y)) h) : HJ 99 0 (lv_args 0 [.ref nd, .int x]) [] h Q :=
  s_ho_0 (x := x.toInt) (T := ((h_k h (h_r h nd 1)).2 : Int)) (MX.start (W := []) ht hnd) rfl rfl rfl (t1 nd (Or.inl hnd)).2 rfl (fun _ => g _) (fun _ _ _ _ => g _) (fun _ _ _ _ => g _)
theorem l_hv11 {nd : Nat} {p : Int64} (hnd : ρ nd = 39) (t1 : ∀ (h : MH) (V : Nat → Nat → Int), MX 25 W ρ m A h0 h F V G → t_nd ρ h) (hw : d_sub [(28, 1001)] W = true) (g : ∀ (lv : List (Nat × Value)) (h : MH) (V : Nat → Nat → Int), MX 25 W ρ m A h0 h F V G → m_lk lv 0 = some (.ref m) → m_lk lv 2 = some (.long p) → HJ 153 70 lv [] h Q) : ∀ (d i : Nat) (lv : List (Nat × Value)) (h : MH) (V : Nat → Nat → Int) (xi : Int32), i + d = 15120 → MX 25 W ρ m A h0 h F V G → xi.toInt = (i : Int) → m_lk lv 0 = some (.ref m) → m_lk lv 1 = some (.ref nd) → m_lk lv 2 = some (.long p) → m_lk lv 4 = some (.int xi) → HJ 153 11 lv [] h Q := by
  intro d
  induction d with
  | zero =>
    intro i lv h V xi hd M qi e0 e1 e2 e4
    exact s_hv11 M e0 e1 hnd e2 e4 qi (fun _ _ _ _ => g lv h V M e0 e2) (fun z a b c => by omega)
  | succ d ih =>
    intro i lv h V xi hd M qi e0 e1 e2 e4
    exact s_hv11 M e0 e1 hnd e2 e4 qi (fun _ _ _ _ => g lv h V M e0 e2) (fun z a b c => c_hold99 M.1.1 hnd (t1 h V M) (fun y => s_hv26 M e0 e1 hnd e2 e4 qi (fun lv1 d0 d1 d2 d4 d5 => c_first (fun x b0 b1 b2 => s_hv35 M d0 d1 hnd d2 d4 qi d5 (x := x.toInt) rfl (fun lv2 c0 c1 c2 c4 c5 c7 => c_bc (fun x2 k0 k1 k2 => s_hv42 M c0 c1 hnd c2 c4 qi c7 rfl (z := x2.toInt) rfl (fun e => b2 (fun y0 => by have := k2 y0; omega)) (by omega) (by omega) hw
      (fun x3 q3 lv3 f0 f1 f2 f4 _ => ih (i + 1) lv3 h V x3 (by omega) M (by omega) f0 f1 f2 f4)
      (fun x3 q3 lv3 f0 f1 f2 f4 _ _ => ih (i + 1) lv3 h V x3 (by omega) M (by omega) f0 f1 f2 f4)
      (fun z7 _ _ h8 V8 _ x3 q3 lv3 M8 f0 f1 f2 f4 _ _ => ih (i + 1) lv3 h8 V8 x3 (by omega) M8 (by omega) f0 f1 f2 f4)))))))
theorem l_hv76 {p : Int64} (M : MX 25 W ρ m A h0 h F V G) (g : ∀ x : Int32, Q (some (.int x)) h) : ∀ (d v : Nat) (lv : List (Nat × Value)) (xb xv : Int32), v + d = 41 → -1 ≤ xb.toInt → xb.toInt ≤ 40 → xv.toInt = (v : Int) → m_lk lv 0 = some (.ref m) → m_lk lv 2 = some (.long p) → m_lk lv 4 = some (.int xb) → m_lk lv 5 = some (.int xv) → HJ 153 76 lv [] h Q := by
  intro d
  induction d with
  | zero =>
    intro v lv xb xv hd b0 b1 qv e0 e2 e4 e5
    exact s_hv76 M e0 e2 e4 rfl e5 qv (fun _ => g xb) (fun c => by omega)
  | succ d ih =>
    intro v lv xb xv hd b0 b1 qv e0 e2 e4 e5
    exact s_hv76 M e0 e2 e4 rfl e5 qv (fun _ => g xb) (fun c => c_bit (fun y => s_hv89 M e0 e2 e4 rfl e5 qv b0 b1 (by omega) (by omega)
      (fun x2 q2 lv2 d0 d2 d4 d5 _ => ih (v + 1) lv2 _ x2 (by omega) (by omega) (by omega) (by omega) d0 d2 d4 d5)
      (fun x2 q2 lv2 d0 d2 d4 d5 _ _ => ih (v + 1) lv2 _ x2 (by omega) (by omega) (by omega) (by omega) d0 d2 d4 d5)
      (fun x2 q2 lv2 d0 d2 d4 d5 _ _ _ => ih (v + 1) lv2 _ x2 (by omega) (by omega) (by omega) (by omega) d0 d2 d4 d5)
      (fun x2 q2 lv2 d0 d2 d4 d5 _ _ _ => ih (v + 1) lv2 _ x2 (by omega) (by omega) (by omega) (by omega) d0 d2 d4 d5)))
theorem c_heaviest {nd : Nat} {p : Int64} (M : MX 25 W ρ m A h0 h F V G) (e0 : m_lk lv 0 = some (.ref m)) (e1 : m_lk lv 1 = some (.ref nd)) (e2 : m_lk lv 2 = some (.long p)) (hnd : ρ nd = 39) (t1 : ∀ (h : MH) (V : Nat → Nat → Int), MX 25 W ρ m A h0 h F V G → t_nd ρ h) (hw : d_sub [(28, 1001)] W = true) (g : ∀ (x : Int32) (h' : MH) (V' : Nat → Nat → Int), MX 25 W ρ m A h0 h' F V' G → Q (some (.int x)) h') : HJ 153 0 lv [] h Q :=
  s_hv0 M e0 e1 hnd e2 (fun x q => c_fill M hw (fun h2 V2 M2 => s_hv8 M2 e0 e1 hnd e2 (fun x1 q1 lv2 d0 d1 d2 d4 => l_hv11 hnd t1 hw (fun lv3 h3 V3 M3 f0 f2 => s_hv70 M3 f0 f2 (fun x4 q4 x5 q5 lv5 k0 k2 k4 k5 => l_hv76 M3 (fun x => g x h3 V3 M3) 41 0 lv5 x4 x5 rfl (by omega) (by omega) q5 k0 k2 k4 k5)) 15120 0 lv2 h2 V2 x1 rfl M2 q1 d0 d1 d2 d4)))
end
end
section
-- THE SHARES' TABLE BY HAND: chosen ones, sums, the fewest
section
variable {i pc pc' : Nat} {lv : List (Nat × Value)} {st : List Value} {h : MH} {Q : Option Value → MH → Prop}
theorem hM_ishlx {x y : Int32} (a : m_at i pc = some (.ishl, 1)) (hp : pc + 1 = pc') (g : ∀ w : Int32, w.toInt = (x <<< (y &&& 31)).toInt → HJ i pc' lv (.int w :: st) h Q) : HJ i pc lv (.int y :: .int x :: st) h Q := hI_ishl a hp (g _ rfl)
theorem hM_iorx {x y : Int32} (a : m_at i pc = some (.ior, 1)) (hp : pc + 1 = pc') (g : ∀ w : Int32, w.toInt = (x ||| y).toInt → HJ i pc' lv (.int w :: st) h Q) : HJ i pc lv (.int y :: .int x :: st) h Q := hI_ior a hp (g _ rfl)
theorem hM_ixorx {x y : Int32} (a : m_at i pc = some (.ixor, 1)) (hp : pc + 1 = pc') (g : ∀ w : Int32, w.toInt = (x ^^^ y).toInt → HJ i pc' lv (.int w :: st) h Q) : HJ i pc lv (.int y :: .int x :: st) h Q := hI_ixor a hp (g _ rfl)
theorem hM_lw {w idx : Nat} {x : Int32} (a : m_at i pc = some (.ldc_w idx, w)) (hx : m_ic i idx = some x) (hp : pc + 3 = pc') (g : ∀ (y : Int32) (z : Int), y.toInt = z → -2147483648 ≤ z → z ≤ 2147483647 → HJ i pc' lv (.int y :: st) h Q) (hw : w = 3 := by rfl) : HJ i pc lv st h Q := by
  subst hp hw
  refine HJ.ex a (Or.inl rfl) ?_ (g x _ rfl (g_iT _).1 (g_iT _).2)
  show e_ldc 3 i idx pc lv st h = _
  unfold e_ldc
  rw [hx]
  rfl
end
theorem i_nat {x : Int32} (h0 : 0 ≤ x.toInt) : (x.toBitVec.toNat : Int) = x.toInt := by
  have e : x.toInt = x.toBitVec.toInt := rfl
  rw [e] at h0 ⊢
  rw [BitVec.toInt_eq_toNat_cond] at h0 ⊢
  split
  · rfl
  · next hc =>
    rw [if_neg hc] at h0
    have := x.toBitVec.isLt
    omega
theorem i_ofn {x : Int32} {n : Nat} (hn : n ≤ 30) (hx : x.toBitVec.toNat < 2 ^ n) : 0 ≤ x.toInt ∧ x.toInt < (2 : Int) ^ n := by
  have e : x.toInt = x.toBitVec.toInt := rfl
  have h2 : (2 : Nat) ^ n ≤ 2 ^ 30 := Nat.pow_le_pow_right (by decide) hn
  have h3 : (((2 : Nat) ^ n : Nat) : Int) = (2 : Int) ^ n := Int.natCast_pow 2 n
  rw [e, BitVec.toInt_eq_toNat_of_lt (by omega)]
  omega
theorem i_ltn {x : Int32} {n : Nat} (h0 : 0 ≤ x.toInt) (h1 : x.toInt < (2 : Int) ^ n) : x.toBitVec.toNat < 2 ^ n := by
  have h3 : (((2 : Nat) ^ n : Nat) : Int) = (2 : Int) ^ n := Int.natCast_pow 2 n
  have := i_nat h0
  omega
theorem i_xorB {a b : Int32} {n : Nat} (hn : n ≤ 30) (a0 : 0 ≤ a.toInt) (a1 : a.toInt < (2 : Int) ^ n) (b0 : 0 ≤ b.toInt) (b1 : b.toInt < (2 : Int) ^ n) : 0 ≤ (a ^^^ b).toInt ∧ (a ^^^ b).toInt < (2 : Int) ^ n := i_ofn hn (by
  show (a.toBitVec ^^^ b.toBitVec).toNat < 2 ^ n
  rw [BitVec.toNat_xor]
  exact Nat.xor_lt_two_pow (i_ltn a0 a1) (i_ltn b0 b1))
theorem i_orB {a b : Int32} {n : Nat} (hn : n ≤ 30) (a0 : 0 ≤ a.toInt) (a1 : a.toInt < (2 : Int) ^ n) (b0 : 0 ≤ b.toInt) (b1 : b.toInt < (2 : Int) ^ n) : 0 ≤ (a ||| b).toInt ∧ (a ||| b).toInt < (2 : Int) ^ n := i_ofn hn (by
  show (a.toBitVec ||| b.toBitVec).toNat < 2 ^ n
  rw [BitVec.toNat_or]
  exact Nat.or_lt_two_pow (i_ltn a0 a1) (i_ltn b0 b1))
theorem z_pow {n : Nat} : (1 : Int) ≤ (2 : Int) ^ n := by
  have h3 : (((2 : Nat) ^ n : Nat) : Int) = (2 : Int) ^ n := Int.natCast_pow 2 n
  have := Nat.one_le_two_pow (n := n)
  omega
theorem z_powL {a b : Nat} (h : a ≤ b) : (2 : Int) ^ a ≤ (2 : Int) ^ b := by
  have h3 : (((2 : Nat) ^ a : Nat) : Int) = (2 : Int) ^ a := Int.natCast_pow 2 a
  have h4 : (((2 : Nat) ^ b : Nat) : Int) = (2 : Int) ^ b := Int.natCast_pow 2 b
  have := Nat.pow_le_pow_right (n := 2) (by decide) h
  omega
theorem z_powS {a : Nat} : (2 : Int) ^ (a + 1) = 2 * (2 : Int) ^ a := by
  rw [Int.pow_succ]
  omega
theorem sb_x {a b : Int32} {i j k : Int} (ha : a.toInt = j) (j0 : 0 ≤ j) (j1 : j < (2 : Int) ^ k.toNat) (hb : b.toInt = (2 : Int) ^ i.toNat) (i0 : 0 ≤ i) (i1 : i < k) (k1 : k ≤ 12) : 0 ≤ (a ^^^ b).toInt ∧ (a ^^^ b).toInt < (2 : Int) ^ k.toNat := by
  have e1 : (2 : Int) ^ (i.toNat + 1) ≤ (2 : Int) ^ k.toNat := z_powL (by omega)
  rw [z_powS] at e1
  have e2 := z_pow (n := i.toNat)
  exact i_xorB (by omega) (by omega) (by omega) (by omega) (by omega)
theorem fk_x {a b : Int32} {x y k : Int} (ha : a.toInt = x) (hb : b.toInt = y) (y0 : 0 ≤ y) (y1 : y < x) (x1 : x < (2 : Int) ^ k.toNat) (k1 : k ≤ 12) : 0 ≤ (a ^^^ b).toInt ∧ (a ^^^ b).toInt < (2 : Int) ^ k.toNat := i_xorB (by omega) (by omega) (by omega) (by omega) (by omega)
theorem pk_F : ∀ (c : Fin 2) (i : Fin 13), ((Int64.ofNat c.val).toInt32 <<< (Int32.ofInt (i.val : Int) &&& 31)).toInt = (c.val : Int) * (2 : Int) ^ i.val := by decide +kernel
theorem pk_1 (y : Int64) : ∃ c : Fin 2, y &&& (Int64.ofNat (1 : Fin 2).val) = Int64.ofNat c.val := by
  have h1 : (y &&& (Int64.ofNat (1 : Fin 2).val)).toBitVec.toNat < 2 := by
    show (y.toBitVec &&& (1#64)).toNat < 2
    rw [BitVec.toNat_and]
    exact Nat.lt_of_le_of_lt Nat.and_le_right (by decide)
  refine ⟨⟨_, h1⟩, ?_⟩
  show _ = Int64.ofNat (y &&& (Int64.ofNat (1 : Fin 2).val)).toBitVec.toNat
  generalize y &&& (Int64.ofNat (1 : Fin 2).val) = w
  refine Int64.toBitVec_inj.mp ?_
  show w.toBitVec = BitVec.ofNat 64 w.toBitVec.toNat
  rw [BitVec.ofNat_toNat, BitVec.setWidth_eq]
theorem pk_b {b x w i2 : Int32} {y : Int64} {i : Nat} (hi : i2.toInt = (i : Int)) (i1 : i ≤ 11) (b0 : 0 ≤ b.toInt) (b1 : b.toInt < (2 : Int) ^ i) (hx : x.toInt = ((y &&& (Int64.ofNat (1 : Fin 2).val)).toInt32).toInt) (hw : w.toInt = (x <<< (i2 &&& 31)).toInt) : 0 ≤ (b ||| w).toInt ∧ (b ||| w).toInt < (2 : Int) ^ (i + 1) := by
  obtain ⟨c, hc⟩ := pk_1 y
  rw [hc] at hx
  have ex : x = (Int64.ofNat c.val).toInt32 := Int32.toInt_inj.mp hx
  have ei : i2 = Int32.ofInt (i : Int) := by rw [← hi, Int32.ofInt_toInt]
  rw [ex, ei, pk_F c ⟨i, by omega⟩] at hw
  dsimp only at hw
  have p := z_pow (n := i)
  have ps := z_powS (a := i)
  have hcc : c.val = 0 ∨ c.val = 1 := by omega
  have hw2 : w.toInt = 0 ∨ w.toInt = (2 : Int) ^ i := by
    rcases hcc with e | e
    · left; rw [hw, e]; simp
    · right; rw [hw, e]; simp
  exact i_orB (by omega) b0 (by omega) (by omega) (by omega)
section
variable {lv : List (Nat × Value)} {Q : Option Value → MH → Prop} {W : List (Nat × Nat)} {ρ : Nat → Nat} {m : Nat} {A : Nat → Nat} {h0 h : MH} {F : Nat → Int} {V : Nat → Nat → Int} {G : Nat → Nat → Int64}
theorem s_ft0 {z : Int} (M : MX 25 W ρ m A h0 h F V G) (e0 : m_lk lv 0 = some (.ref (A 0))) {lx1 : Int32} (e1 : m_lk lv 1 = some (.int lx1)) (lq1 : lx1.toInt = z) 
    (g0 : ∀ x1 : Int32, x1.toInt = 0 → ∀ x3 : Int32, ∀ z3 : Int, x3.toInt = z3 → 1 ≤ z3 → z3 ≤ 4096 → z3 = ((h_k h0 (A 0)).2 : Int) → ∀ lv4 : List (Nat × Value), m_lk lv4 0 = some (.ref (A 0)) → m_lk lv4 1 = some (.int lx1) → m_lk lv4 2 = some (.int x1) → m_lk lv4 3 = some (.int x3) → HJ 48 5 lv4 [] h Q)
    : HJ 48 0 lv [] h Q := by
  refine hM_ic (n := 0) rfl (by decide) rfl (fun x1 q1 => ?_) -- 0
  refine hM_si (k := 2) rfl (by decide +kernel) rfl (fun lv2 e2_2 u2 => ?_) -- 1
  have e2_0 := u2 0 _ (by decide) (Or.inl rfl) e0
  have e2_1 := u2 1 _ (by decide) (Or.inl rfl) e1
  refine hI_al (k := 0) rfl e2_0 rfl ?_ -- 2
  refine hM_al M (by decide) (K := 0) (R2 := 26) (L := 1) (H := 4096) rfl (by decide) rfl rfl (by decide) rfl rfl (fun x3 z3 q3 a3 b3 c3 => ?_) -- 3
  refine hM_si (k := 3) rfl (by decide +kernel) rfl (fun lv4 e4_3 u4 => ?_) -- 4
  have e4_0 := u4 0 _ (by decide) (Or.inl rfl) e2_0
  have e4_1 := u4 1 _ (by decide) (Or.inl rfl) e2_1
  have e4_2 := u4 2 _ (by decide) (Or.inl rfl) e2_2
  exact g0 x1 q1 x3 z3 q3 a3 b3 c3 lv4 e4_0 e4_1 e4_2 e4_3
theorem s_ft5 {z i n T : Int} (M : MX 25 W ρ m A h0 h F V G) (e0 : m_lk lv 0 = some (.ref (A 0))) {lx1 : Int32} (e1 : m_lk lv 1 = some (.int lx1)) (lq1 : lx1.toInt = z) {lx2 : Int32} (e2 : m_lk lv 2 = some (.int lx2)) (lq2 : lx2.toInt = i) {lx3 : Int32} (e3 : m_lk lv 3 = some (.int lx3)) (lq3 : lx3.toInt = n) (i0 : 0 ≤ i) (n1 : n ≤ T) (t1 : T ≤ 4096)(hl0 : ((h_k h0 (A 0)).2 : Int) = T)(hw : d_sub [(26, 1001)] W = true)
    (g0 : i ≥ n → Q none h)
    (g1 : ∀ h1 : MH, ∀ V1 : Nat → Nat → Int, ∀ x2 : Int32, x2.toInt = i + 1 → ∀ lv2 : List (Nat × Value), MX 25 W ρ m A h0 h1 F V1 G → m_lk lv2 0 = some (.ref (A 0)) → m_lk lv2 1 = some (.int lx1) → m_lk lv2 2 = some (.int x2) → m_lk lv2 3 = some (.int lx3) → i < n → HJ 48 5 lv2 [] h1 Q)
    : HJ 48 5 lv [] h Q := by
  refine hI_il (k := 2) rfl e2 rfl ?_ -- 5
  refine hI_il (k := 3) rfl e3 rfl ?_ -- 6
  refine hM_cge (off := 13) (t := 20) rfl lq2 lq3 (by decide) rfl (fun c7 => ?_) (fun c7 => ?_) -- 7
  · refine hI_rv rfl rfl ?_
    exact g0 c7
  · refine hI_al (k := 0) rfl e0 rfl ?_ -- 10
    refine hI_il (k := 2) rfl e2 rfl ?_ -- 11
    refine hI_il (k := 1) rfl e1 rfl ?_ -- 12
    refine hM_isv M (by decide) ok_25 (K := 0) (R2 := 26) (L := 1) (H := 4096) rfl (by decide) rfl rfl rfl (fun _ => rfl) (d_subm hw (by decide +kernel)) hl0 rfl lq2 (by omega) (by omega) rfl (fun h1 V1 M1 => ?_) -- 13
    refine hM_inc (k := 2) (z := 1) rfl e2 lq2 (by decide) (by omega) (by omega) (by decide +kernel) rfl (fun lv2 x2 q2 e2_2 u2 => ?_) -- 14
    have e2_0 := u2 0 _ (by decide) (Or.inl rfl) e0
    have e2_1 := u2 1 _ (by decide) (Or.inl rfl) e1
    have e2_3 := u2 3 _ (by decide) (Or.inl rfl) e3
    refine hI_go (pc' := 5) (off := (-12)) rfl (by decide) ?_ -- 17
    exact g1 h1 V1 x2 q2 lv2 M1 e2_0 e2_1 e2_2 e2_3 c7
theorem s_ch0 (M : MX 25 W ρ m A h0 h F V G) (e0 : m_lk lv 0 = some (.ref m)) {lx1 : Int64} (e1 : m_lk lv 1 = some (.long lx1)) (hw : d_sub [(25, 3)] W = true)
    (g0 : ∀ h2 : MH, ∀ F2 : Nat → Int, F2 = m_u F 3 (0) → ∀ x3 : Int32, x3.toInt = 0 → ∀ lv4 : List (Nat × Value), MX 25 W ρ m A h0 h2 F2 V G → m_lk lv4 0 = some (.ref m) → m_lk lv4 1 = some (.long lx1) → m_lk lv4 3 = some (.int x3) → HJ 158 7 lv4 [] h2 Q)
    : HJ 158 0 lv [] h Q := by
  refine hI_al (k := 0) rfl e0 rfl ?_ -- 0
  refine hM_ic (n := 0) rfl (by decide) rfl (fun x1 q1 => ?_) -- 1
  refine hM_pi M (by decide) ok_25 rfl rfl (k := 3) (c := 5) (lo := 0) (hi := 12) rfl rfl ⟨by decide, by decide +kernel, rfl⟩ rfl (d_subm hw (by decide +kernel)) q1 (by omega) (by omega) rfl (fun h2 F2 f2 M2 => ?_) -- 2
  refine hM_ic (n := 0) rfl (by decide) rfl (fun x3 q3 => ?_) -- 5
  refine hM_si (k := 3) rfl (by decide +kernel) rfl (fun lv4 e4_3 u4 => ?_) -- 6
  have e4_0 := u4 0 _ (by decide) (Or.inl rfl) e0
  have e4_1 := u4 1 _ (by decide) (Or.inr (by decide)) e1
  exact g0 h2 F2 f2 x3 q3 lv4 M2 e4_0 e4_1 e4_3
theorem s_ch7 {v : Int} (M : MX 25 W ρ m A h0 h F V G) (e0 : m_lk lv 0 = some (.ref m)) {lx1 : Int64} (e1 : m_lk lv 1 = some (.long lx1)) {lx3 : Int32} (e3 : m_lk lv 3 = some (.int lx3)) (lq3 : lx3.toInt = v) 
    (g0 : v ≥ 41 → HJ 158 59 lv [] h Q)
    (g1 : v < 41 → 0 ≤ F 3 → F 3 ≤ 12 → F 3 ≥ 12 → HJ 158 59 lv [] h Q)
    (g2 : v < 41 → 0 ≤ F 3 → F 3 ≤ 12 → F 3 < 12 → HJ 52 0 (lv_args 0 [.int lx3]) [] h (fun v h' => HJ 158 27 lv (v.toList ++ [.long lx1]) h' Q))
    : HJ 158 7 lv [] h Q := by
  refine hI_il (k := 3) rfl e3 rfl ?_ -- 7
  refine hM_bp (n := 41) rfl (by decide) rfl (fun x1 q1 => ?_) -- 8
  refine hM_cge (off := 49) (t := 59) rfl lq3 q1 (by decide) rfl (fun c10 => ?_) (fun c10 => ?_) -- 10
  · exact g0 c10
  · refine hI_al (k := 0) rfl e0 rfl ?_ -- 13
    refine hM_gi M (by decide) rfl rfl rfl (k := 3) (c := 5) (lo := 0) (hi := 12) rfl rfl rfl rfl rfl (fun x2 q2 a2 b2 => ?_) -- 14
    refine hM_bp (n := 12) rfl (by decide) rfl (fun x3 q3 => ?_) -- 17
    refine hM_cge (off := 40) (t := 59) rfl q2 q3 (by decide) rfl (fun c19 => ?_) (fun c19 => ?_) -- 19
    · exact g1 c10 a2 b2 c19
    · refine hI_ll (k := 1) rfl e1 rfl ?_ -- 22
      refine hI_il (k := 3) rfl e3 rfl ?_ -- 23
      refine hM_is0 (as := [.int lx3]) (r := [.long lx1]) rfl rfl (by decide +kernel) rfl rfl rfl rfl rfl ?_ -- 24
      exact g2 c10 a2 b2 c19
theorem s_ch27 {v : Int} (M : MX 25 W ρ m A h0 h F V G) (e0 : m_lk lv 0 = some (.ref m)) {lx1 : Int64} (e1 : m_lk lv 1 = some (.long lx1)) {lx3 : Int32} (e3 : m_lk lv 3 = some (.int lx3)) (lq3 : lx3.toInt = v) {sx0 : Int64} {sx1 : Int64} (f0 : 0 ≤ F 3) (f1 : F 3 < 12) (v0 : 0 ≤ v) (v1 : v ≤ 40)(hw : d_sub [(27, 1001), (25, 3)] W = true)
    (g0 : ∀ x2 : Int32, x2.toInt = v + 1 → ∀ lv2 : List (Nat × Value), m_lk lv2 0 = some (.ref m) → m_lk lv2 1 = some (.long lx1) → m_lk lv2 3 = some (.int x2) → (lg_cmp (sx0 &&& sx1) (Int64.ofNat (0 : Fin 2).val)).toInt = 0 → HJ 158 7 lv2 [] h Q)
    (g1 : ∀ h4 : MH, ∀ V4 : Nat → Nat → Int, V4 = m_u V 1 (m_u (V 1) (F 3).toNat (v)) → ∀ h8 : MH, ∀ F8 : Nat → Int, F8 = m_u F 3 ((F 3) + 1) → ∀ x9 : Int32, x9.toInt = v + 1 → ∀ lv9 : List (Nat × Value), MX 25 W ρ m A h0 h8 F8 V4 G → m_lk lv9 0 = some (.ref m) → m_lk lv9 1 = some (.long lx1) → m_lk lv9 3 = some (.int x9) → (lg_cmp (sx0 &&& sx1) (Int64.ofNat (0 : Fin 2).val)).toInt ≠ 0 → 0 ≤ F 3 → F 3 ≤ 12 → HJ 158 7 lv9 [] h8 Q)
    : HJ 158 27 lv [.long sx1, .long sx0] h Q := by
  refine hI_land rfl rfl ?_ -- 27
  refine hI_lc (n := 0) rfl rfl ?_ -- 28
  refine hM_lcmp rfl rfl (fun x1 q1 => ?_) -- 29
  refine hM_zeq (off := 23) (t := 53) rfl q1 (by decide) rfl (fun c30 => ?_) (fun c30 => ?_) -- 30
  · refine hM_inc (k := 3) (z := 1) rfl e3 lq3 (by decide) (by omega) (by omega) (by decide +kernel) rfl (fun lv2 x2 q2 e2_3 u2 => ?_) -- 53
    have e2_0 := u2 0 _ (by decide) (Or.inl rfl) e0
    have e2_1 := u2 1 _ (by decide) (Or.inr (by decide)) e1
    refine hI_go (pc' := 7) (off := (-49)) rfl (by decide) ?_ -- 56
    exact g0 x2 q2 lv2 e2_0 e2_1 e2_3 c30
  · refine hI_al (k := 0) rfl e0 rfl ?_ -- 33
    refine hM_ga M (by decide) rfl rfl (k := 1) (c := 5) rfl rfl rfl (by decide +kernel) rfl ?_ -- 34
    refine hI_al (k := 0) rfl e0 rfl ?_ -- 37
    refine hM_gi M (by decide) rfl rfl rfl (k := 3) (c := 5) (lo := 0) (hi := 12) rfl rfl rfl rfl rfl (fun x3 q3 a3 b3 => ?_) -- 38
    refine hI_il (k := 3) rfl e3 rfl ?_ -- 41
    refine hM_is M (by decide) ok_25 (K := 1) (R2 := 27) (L := 12) (H := 12) (lo := 0) (hi := 40) rfl (by decide) rfl rfl rfl (fun _ => rfl) (d_subm hw (by decide +kernel)) rfl q3 lq3 (by omega) (by omega) (by omega) (by omega) rfl (fun h4 V4 f4 M4 => ?_) -- 42
    refine hI_al (k := 0) rfl e0 rfl ?_ -- 43
    refine hI_dup rfl rfl rfl ?_ -- 44
    refine hM_gi M4 (by decide) rfl rfl rfl (k := 3) (c := 5) (lo := 0) (hi := 12) rfl rfl rfl rfl rfl (fun x5 q5 a5 b5 => ?_) -- 45
    refine hM_ic (n := 1) rfl (by decide) rfl (fun x6 q6 => ?_) -- 48
    refine hM_add rfl q5 q6 (by omega) (by omega) rfl (fun x7 q7 => ?_) -- 49
    refine hM_pi M4 (by decide) ok_25 rfl rfl (k := 3) (c := 5) (lo := 0) (hi := 12) rfl rfl ⟨by decide, by decide +kernel, rfl⟩ rfl (d_subm hw (by decide +kernel)) q7 (by omega) (by omega) rfl (fun h8 F8 f8 M8 => ?_) -- 50
    refine hM_inc (k := 3) (z := 1) rfl e3 lq3 (by decide) (by omega) (by omega) (by decide +kernel) rfl (fun lv9 x9 q9 e9_3 u9 => ?_) -- 53
    have e9_0 := u9 0 _ (by decide) (Or.inl rfl) e0
    have e9_1 := u9 1 _ (by decide) (Or.inr (by decide)) e1
    refine hI_go (pc' := 7) (off := (-49)) rfl (by decide) ?_ -- 56
    exact g1 h4 V4 f4 h8 F8 f8 x9 q9 lv9 M8 e9_0 e9_1 e9_3 c30 a3 b3
theorem s_ch59 (M : MX 25 W ρ m A h0 h F V G) (e0 : m_lk lv 0 = some (.ref m)) 
    (g0 : ∀ z1 : Int, 1 ≤ z1 → z1 ≤ 4096 → z1 = ((h_k h0 (A 0)).2 : Int) → 0 ≤ F 3 → F 3 ≤ 12 → z1 ≥ (2 : Int) ^ (F 3).toNat → HJ 158 85 lv [] h Q)
    (g1 : ∀ z1 : Int, 1 ≤ z1 → z1 ≤ 4096 → z1 = ((h_k h0 (A 0)).2 : Int) → 0 ≤ F 3 → F 3 ≤ 12 → z1 < (2 : Int) ^ (F 3).toNat → HJ 158 73 lv [] h Q)
    : HJ 158 59 lv [] h Q := by
  refine hI_al (k := 0) rfl e0 rfl ?_ -- 59
  refine hM_ga M (by decide) rfl rfl (k := 0) (c := 5) rfl rfl rfl (by decide +kernel) rfl ?_ -- 60
  refine hM_al M (by decide) (K := 0) (R2 := 26) (L := 1) (H := 4096) rfl (by decide) rfl rfl (by decide) rfl rfl (fun x1 z1 q1 a1 b1 c1 => ?_) -- 63
  refine hM_ic (n := 1) rfl (by decide) rfl (fun x2 q2 => ?_) -- 64
  refine hI_al (k := 0) rfl e0 rfl ?_ -- 65
  refine hM_gi M (by decide) rfl rfl rfl (k := 3) (c := 5) (lo := 0) (hi := 12) rfl rfl rfl rfl rfl (fun x3 q3 a3 b3 => ?_) -- 66
  refine hM_shl rfl q2 q3 (by omega) (by omega) rfl (fun x4 q4 => ?_) -- 69
  refine hM_cge (off := 15) (t := 85) rfl q1 q4 (by decide) rfl (fun c70 => ?_) (fun c70 => ?_) -- 70
  · exact g0 z1 a1 b1 c1 a3 b3 c70
  · exact g1 z1 a1 b1 c1 a3 b3 c70
theorem s_ch73 (M : MX 25 W ρ m A h0 h F V G) (e0 : m_lk lv 0 = some (.ref m)) 
    (g0 : ∀ x3 : Int32, x3.toInt = (2 : Int) ^ (F 3).toNat → 0 ≤ F 3 → F 3 ≤ 12 → HJ 158 80 lv [.int x3, .ref m] h Q)
    : HJ 158 73 lv [] h Q := by
  refine hI_al (k := 0) rfl e0 rfl ?_ -- 73
  refine hM_ic (n := 1) rfl (by decide) rfl (fun x1 q1 => ?_) -- 74
  refine hI_al (k := 0) rfl e0 rfl ?_ -- 75
  refine hM_gi M (by decide) rfl rfl rfl (k := 3) (c := 5) (lo := 0) (hi := 12) rfl rfl rfl rfl rfl (fun x2 q2 a2 b2 => ?_) -- 76
  refine hM_shl rfl q1 q2 (by omega) (by omega) rfl (fun x3 q3 => ?_) -- 79
  exact g0 x3 q3 a2 b2
theorem s_ch85 (M : MX 25 W ρ m A h0 h F V G) (e0 : m_lk lv 0 = some (.ref m)) 
    (g0 : ∀ x1 : Int32, x1.toInt = 0 → HJ 48 0 (lv_args 0 [.ref (A 0), .int x1]) [] h (fun v h' => HJ 158 93 lv (v.toList ++ []) h' Q))
    : HJ 158 85 lv [] h Q := by
  refine hI_al (k := 0) rfl e0 rfl ?_ -- 85
  refine hM_ga M (by decide) rfl rfl (k := 0) (c := 5) rfl rfl rfl (by decide +kernel) rfl ?_ -- 86
  refine hM_ic (n := 0) rfl (by decide) rfl (fun x1 q1 => ?_) -- 89
  refine hM_is0 (as := [.ref (A 0), .int x1]) (r := []) rfl rfl (by decide +kernel) rfl rfl rfl rfl rfl ?_ -- 90
  exact g0 x1 q1
theorem s_ch93   
    (g0 : Q none h)
    : HJ 158 93 lv [] h Q := by
  refine hI_rv rfl rfl ?_
  exact g0 
theorem s_pk0 (M : MX 25 W ρ m A h0 h F V G) (e0 : m_lk lv 0 = some (.ref m)) {lx1 : Int64} (e1 : m_lk lv 1 = some (.long lx1)) 
    (g0 : ∀ x1 : Int32, x1.toInt = 0 → ∀ x3 : Int32, x3.toInt = 0 → ∀ lv4 : List (Nat × Value), m_lk lv4 0 = some (.ref m) → m_lk lv4 1 = some (.long lx1) → m_lk lv4 3 = some (.int x1) → m_lk lv4 4 = some (.int x3) → HJ 159 5 lv4 [] h Q)
    : HJ 159 0 lv [] h Q := by
  refine hM_ic (n := 0) rfl (by decide) rfl (fun x1 q1 => ?_) -- 0
  refine hM_si (k := 3) rfl (by decide +kernel) rfl (fun lv2 e2_3 u2 => ?_) -- 1
  have e2_0 := u2 0 _ (by decide) (Or.inl rfl) e0
  have e2_1 := u2 1 _ (by decide) (Or.inr (by decide)) e1
  refine hM_ic (n := 0) rfl (by decide) rfl (fun x3 q3 => ?_) -- 2
  refine hM_si2 (k := 4) rfl (by decide +kernel) rfl (fun lv4 e4_4 u4 => ?_) -- 3
  have e4_0 := u4 0 _ (by decide) (Or.inl rfl) e2_0
  have e4_1 := u4 1 _ (by decide) (Or.inr (by decide)) e2_1
  have e4_3 := u4 3 _ (by decide) (Or.inl rfl) e2_3
  exact g0 x1 q1 x3 q3 lv4 e4_0 e4_1 e4_3 e4_4
theorem s_pk5 {b i : Int} (M : MX 25 W ρ m A h0 h F V G) (e0 : m_lk lv 0 = some (.ref m)) {lx1 : Int64} (e1 : m_lk lv 1 = some (.long lx1)) {lx3 : Int32} (e3 : m_lk lv 3 = some (.int lx3)) (lq3 : lx3.toInt = b) {lx4 : Int32} (e4 : m_lk lv 4 = some (.int lx4)) (lq4 : lx4.toInt = i) (i0 : 0 ≤ i) (i1 : i ≤ 12)
    (g0 : 0 ≤ F 3 → F 3 ≤ 12 → i ≥ F 3 → Q (some (.int lx3)) h)
    (g1 : ∀ x3 : Int32, x3.toInt = (((lu_sh lx1 (V 1 (i).toNat)) &&& (Int64.ofNat (1 : Fin 2).val)).toInt32).toInt → ∀ x4 : Int32, x4.toInt = (x3 <<< (lx4 &&& 31)).toInt → ∀ x5 : Int32, x5.toInt = (lx3 ||| x4).toInt → ∀ x7 : Int32, x7.toInt = i + 1 → ∀ lv7 : List (Nat × Value), m_lk lv7 0 = some (.ref m) → m_lk lv7 1 = some (.long lx1) → m_lk lv7 3 = some (.int x5) → m_lk lv7 4 = some (.int x7) → 0 ≤ F 3 → F 3 ≤ 12 → i < F 3 → 0 ≤ V 1 (i).toNat → V 1 (i).toNat ≤ 40 → HJ 159 5 lv7 [] h Q)
    : HJ 159 5 lv [] h Q := by
  refine hI_il2 (k := 4) rfl e4 rfl ?_ -- 5
  refine hI_al (k := 0) rfl e0 rfl ?_ -- 7
  refine hM_gi M (by decide) rfl rfl rfl (k := 3) (c := 5) (lo := 0) (hi := 12) rfl rfl rfl rfl rfl (fun x1 q1 a1 b1 => ?_) -- 8
  refine hM_cge (off := 27) (t := 38) rfl lq4 q1 (by decide) rfl (fun c11 => ?_) (fun c11 => ?_) -- 11
  · refine hI_il (k := 3) rfl e3 rfl ?_ -- 38
    refine hI_ri rfl rfl ?_ -- 39
    exact g0 a1 b1 c11
  · refine hI_il (k := 3) rfl e3 rfl ?_ -- 14
    refine hI_ll (k := 1) rfl e1 rfl ?_ -- 15
    refine hI_al (k := 0) rfl e0 rfl ?_ -- 16
    refine hM_ga M (by decide) rfl rfl (k := 1) (c := 5) rfl rfl rfl (by decide +kernel) rfl ?_ -- 17
    refine hI_il2 (k := 4) rfl e4 rfl ?_ -- 20
    refine hM_ia M (by decide) (K := 1) (R2 := 27) (L := 12) (H := 12) (lo := 0) (hi := 40) rfl (by decide) rfl rfl (fun _ => rfl) rfl lq4 (by omega) (by omega) rfl (fun x2 q2 a2 b2 => ?_) -- 22
    refine hM_lushr rfl q2 rfl ?_ -- 23
    refine hI_lc (n := 1) rfl rfl ?_ -- 24
    refine hI_land rfl rfl ?_ -- 25
    refine hM_l2i rfl rfl (fun x3 q3 => ?_) -- 26
    refine hI_il2 (k := 4) rfl e4 rfl ?_ -- 27
    refine hM_ishlx rfl rfl (fun x4 q4 => ?_) -- 29
    refine hM_iorx rfl rfl (fun x5 q5 => ?_) -- 30
    refine hM_si (k := 3) rfl (by decide +kernel) rfl (fun lv6 e6_3 u6 => ?_) -- 31
    have e6_0 := u6 0 _ (by decide) (Or.inl rfl) e0
    have e6_1 := u6 1 _ (by decide) (Or.inr (by decide)) e1
    have e6_4 := u6 4 _ (by decide) (Or.inl rfl) e4
    refine hM_inc (k := 4) (z := 1) rfl e6_4 lq4 (by decide) (by omega) (by omega) (by decide +kernel) rfl (fun lv7 x7 q7 e7_4 u7 => ?_) -- 32
    have e7_0 := u7 0 _ (by decide) (Or.inl rfl) e6_0
    have e7_1 := u7 1 _ (by decide) (Or.inr (by decide)) e6_1
    have e7_3 := u7 3 _ (by decide) (Or.inl rfl) e6_3
    refine hI_go (pc' := 5) (off := (-30)) rfl (by decide) ?_ -- 35
    exact g1 x3 q3 x4 q4 x5 q5 x7 q7 lv7 e7_0 e7_1 e7_3 e7_4 a1 b1 c11 a2 b2
theorem s_sb0 (M : MX 25 W ρ m A h0 h F V G) (e0 : m_lk lv 0 = some (.ref m)) 
    (g0 : ∀ x1 : Int32, x1.toInt = 0 → ∀ lv2 : List (Nat × Value), m_lk lv2 0 = some (.ref m) → m_lk lv2 1 = some (.int x1) → HJ 160 2 lv2 [] h Q)
    : HJ 160 0 lv [] h Q := by
  refine hM_ic (n := 0) rfl (by decide) rfl (fun x1 q1 => ?_) -- 0
  refine hM_si (k := 1) rfl (by decide +kernel) rfl (fun lv2 e2_1 u2 => ?_) -- 1
  have e2_0 := u2 0 _ (by decide) (Or.inl rfl) e0
  exact g0 x1 q1 lv2 e2_0 e2_1
theorem s_sb2 {i : Int} (M : MX 25 W ρ m A h0 h F V G) (e0 : m_lk lv 0 = some (.ref m)) {lx1 : Int32} (e1 : m_lk lv 1 = some (.int lx1)) (lq1 : lx1.toInt = i) 
    (g0 : 0 ≤ F 3 → F 3 ≤ 12 → i ≥ F 3 → Q none h)
    (g1 : ∀ x2 : Int32, x2.toInt = 0 → ∀ lv3 : List (Nat × Value), m_lk lv3 0 = some (.ref m) → m_lk lv3 1 = some (.int lx1) → m_lk lv3 2 = some (.int x2) → 0 ≤ F 3 → F 3 ≤ 12 → i < F 3 → HJ 160 12 lv3 [] h Q)
    : HJ 160 2 lv [] h Q := by
  refine hI_il (k := 1) rfl e1 rfl ?_ -- 2
  refine hI_al (k := 0) rfl e0 rfl ?_ -- 3
  refine hM_gi M (by decide) rfl rfl rfl (k := 3) (c := 5) (lo := 0) (hi := 12) rfl rfl rfl rfl rfl (fun x1 q1 a1 b1 => ?_) -- 4
  refine hM_cge (off := 54) (t := 61) rfl lq1 q1 (by decide) rfl (fun c7 => ?_) (fun c7 => ?_) -- 7
  · refine hI_rv rfl rfl ?_
    exact g0 a1 b1 c7
  · refine hM_ic (n := 0) rfl (by decide) rfl (fun x2 q2 => ?_) -- 10
    refine hM_si (k := 2) rfl (by decide +kernel) rfl (fun lv3 e3_2 u3 => ?_) -- 11
    have e3_0 := u3 0 _ (by decide) (Or.inl rfl) e0
    have e3_1 := u3 1 _ (by decide) (Or.inl rfl) e1
    exact g1 x2 q2 lv3 e3_0 e3_1 e3_2 a1 b1 c7
theorem s_sb12 {i j T : Int} (M : MX 25 W ρ m A h0 h F V G) (e0 : m_lk lv 0 = some (.ref m)) {lx1 : Int32} (e1 : m_lk lv 1 = some (.int lx1)) (lq1 : lx1.toInt = i) {lx2 : Int32} (e2 : m_lk lv 2 = some (.int lx2)) (lq2 : lx2.toInt = j) (i0 : 0 ≤ i) (i1 : i < F 3) (j0 : 0 ≤ j) (j1 : j ≤ 4096) (f12 : F 3 ≤ 12) (tl : (2 : Int) ^ (F 3).toNat ≤ T)(hl0 : ((h_k h0 (A 0)).2 : Int) = T)(hw : d_sub [(26, 1001)] W = true)
    (g0 : ∀ x4 : Int32, x4.toInt = i + 1 → ∀ lv4 : List (Nat × Value), m_lk lv4 0 = some (.ref m) → m_lk lv4 1 = some (.int x4) → m_lk lv4 2 = some (.int lx2) → 0 ≤ F 3 → F 3 ≤ 12 → j ≥ (2 : Int) ^ (F 3).toNat → HJ 160 2 lv4 [] h Q)
    (g1 : ∀ z5 : Int, -2147483648 ≤ z5 → z5 ≤ 2147483647 → ∀ z7 : Int, -2147483648 ≤ z7 → z7 ≤ 2147483647 → ∀ x8 : Int32, x8.toInt = j + 1 → ∀ lv8 : List (Nat × Value), m_lk lv8 0 = some (.ref m) → m_lk lv8 1 = some (.int lx1) → m_lk lv8 2 = some (.int x8) → 0 ≤ F 3 → F 3 ≤ 12 → j < (2 : Int) ^ (F 3).toNat → z7 = 0 → HJ 160 12 lv8 [] h Q)
    (g2 : ∀ z5 : Int, -2147483648 ≤ z5 → z5 ≤ 2147483647 → ∀ z7 : Int, -2147483648 ≤ z7 → z7 ≤ 2147483647 → ∀ z9 : Int, -2147483648 ≤ z9 → z9 ≤ 2147483647 → ∀ z13 : Int, -2147483648 ≤ z13 → z13 ≤ 2147483647 → ∀ z14 : Int, -2147483648 ≤ z14 → z14 ≤ 2147483647 → ∀ h15 : MH, ∀ V15 : Nat → Nat → Int, ∀ x16 : Int32, x16.toInt = j + 1 → ∀ lv16 : List (Nat × Value), MX 25 W ρ m A h0 h15 F V15 G → m_lk lv16 0 = some (.ref m) → m_lk lv16 1 = some (.int lx1) → m_lk lv16 2 = some (.int x16) → 0 ≤ F 3 → F 3 ≤ 12 → j < (2 : Int) ^ (F 3).toNat → z7 ≠ 0 → HJ 160 12 lv16 [] h15 Q)
    : HJ 160 12 lv [] h Q := by
  refine hI_il (k := 2) rfl e2 rfl ?_ -- 12
  refine hM_ic (n := 1) rfl (by decide) rfl (fun x1 q1 => ?_) -- 13
  refine hI_al (k := 0) rfl e0 rfl ?_ -- 14
  refine hM_gi M (by decide) rfl rfl rfl (k := 3) (c := 5) (lo := 0) (hi := 12) rfl rfl rfl rfl rfl (fun x2 q2 a2 b2 => ?_) -- 15
  refine hM_shl rfl q1 q2 (by omega) (by omega) rfl (fun x3 q3 => ?_) -- 18
  refine hM_cge (off := 36) (t := 55) rfl lq2 q3 (by decide) rfl (fun c19 => ?_) (fun c19 => ?_) -- 19
  · refine hM_inc (k := 1) (z := 1) rfl e1 lq1 (by decide) (by omega) (by omega) (by decide +kernel) rfl (fun lv4 x4 q4 e4_1 u4 => ?_) -- 55
    have e4_0 := u4 0 _ (by decide) (Or.inl rfl) e0
    have e4_2 := u4 2 _ (by decide) (Or.inl rfl) e2
    refine hI_go (pc' := 2) (off := (-56)) rfl (by decide) ?_ -- 58
    exact g0 x4 q4 lv4 e4_0 e4_1 e4_2 a2 b2 c19
  · refine hI_il (k := 2) rfl e2 rfl ?_ -- 22
    refine hI_il (k := 1) rfl e1 rfl ?_ -- 23
    refine hM_iushr rfl rfl (fun x5 z5 q5 a5 b5 => ?_) -- 24
    refine hM_ic (n := 1) rfl (by decide) rfl (fun x6 q6 => ?_) -- 25
    refine hM_iand rfl rfl (fun x7 z7 q7 a7 b7 => ?_) -- 26
    refine hM_zeq (off := 22) (t := 49) rfl q7 (by decide) rfl (fun c27 => ?_) (fun c27 => ?_) -- 27
    · refine hM_inc (k := 2) (z := 1) rfl e2 lq2 (by decide) (by omega) (by omega) (by decide +kernel) rfl (fun lv8 x8 q8 e8_2 u8 => ?_) -- 49
      have e8_0 := u8 0 _ (by decide) (Or.inl rfl) e0
      have e8_1 := u8 1 _ (by decide) (Or.inl rfl) e1
      refine hI_go (pc' := 12) (off := (-40)) rfl (by decide) ?_ -- 52
      exact g1 z5 a5 b5 z7 a7 b7 x8 q8 lv8 e8_0 e8_1 e8_2 a2 b2 c19 c27
    · refine hI_al (k := 0) rfl e0 rfl ?_ -- 30
      refine hM_ga M (by decide) rfl rfl (k := 0) (c := 5) rfl rfl rfl (by decide +kernel) rfl ?_ -- 31
      refine hI_il (k := 2) rfl e2 rfl ?_ -- 34
      refine hI_dup2 rfl rfl rfl rfl ?_ -- 35
      refine hM_iav M (by decide) (K := 0) (R2 := 26) (L := 1) (H := 4096) rfl (by decide) rfl rfl hl0 rfl lq2 (by omega) (by omega) rfl (fun x9 z9 q9 a9 b9 => ?_) -- 36
      refine hI_al (k := 0) rfl e0 rfl ?_ -- 37
      refine hM_ga M (by decide) rfl rfl (k := 0) (c := 5) rfl rfl rfl (by decide +kernel) rfl ?_ -- 38
      refine hI_il (k := 2) rfl e2 rfl ?_ -- 41
      refine hM_ic (n := 1) rfl (by decide) rfl (fun x10 q10 => ?_) -- 42
      refine hI_il (k := 1) rfl e1 rfl ?_ -- 43
      refine hM_shl rfl q10 lq1 (by omega) (by omega) rfl (fun x11 q11 => ?_) -- 44
      refine hM_ixorx rfl rfl (fun x12 q12 => ?_) -- 45
      have ⟨u0, u1⟩ := sb_x lq2 j0 c19 q11 i0 i1 f12
      refine hM_iav M (by decide) (K := 0) (R2 := 26) (L := 1) (H := 4096) rfl (by decide) rfl rfl hl0 rfl q12 (by omega) (by omega) rfl (fun x13 z13 q13 a13 b13 => ?_) -- 46
      refine hM_addw rfl rfl (fun x14 z14 q14 a14 b14 => ?_) -- 47
      refine hM_isv M (by decide) ok_25 (K := 0) (R2 := 26) (L := 1) (H := 4096) rfl (by decide) rfl rfl rfl (fun _ => rfl) (d_subm hw (by decide +kernel)) hl0 rfl lq2 (by omega) (by omega) rfl (fun h15 V15 M15 => ?_) -- 48
      refine hM_inc (k := 2) (z := 1) rfl e2 lq2 (by decide) (by omega) (by omega) (by decide +kernel) rfl (fun lv16 x16 q16 e16_2 u16 => ?_) -- 49
      have e16_0 := u16 0 _ (by decide) (Or.inl rfl) e0
      have e16_1 := u16 1 _ (by decide) (Or.inl rfl) e1
      refine hI_go (pc' := 12) (off := (-40)) rfl (by decide) ?_ -- 52
      exact g2 z5 a5 b5 z7 a7 b7 z9 a9 b9 z13 a13 b13 z14 a14 b14 h15 V15 x16 q16 lv16 M15 e16_0 e16_1 e16_2 a2 b2 c19 c27
theorem s_up0 {b : Int} (M : MX 25 W ρ m A h0 h F V G) (e0 : m_lk lv 0 = some (.ref m)) {lx1 : Int32} (e1 : m_lk lv 1 = some (.int lx1)) (lq1 : lx1.toInt = b) 
    (g0 : ∀ x2 : Int32, x2.toInt = 0 → ∀ lv3 : List (Nat × Value), m_lk lv3 0 = some (.ref m) → m_lk lv3 1 = some (.int lx1) → m_lk lv3 2 = some (.long (Int64.ofNat (0 : Fin 2).val)) → m_lk lv3 4 = some (.int x2) → HJ 161 5 lv3 [] h Q)
    : HJ 161 0 lv [] h Q := by
  refine hI_lc (n := 0) rfl rfl ?_ -- 0
  refine hM_sl (k := 2) rfl (by decide +kernel) rfl (fun lv1 e1_2 u1 => ?_) -- 1
  have e1_0 := u1 0 _ (by decide) (by decide) (Or.inl rfl) e0
  have e1_1 := u1 1 _ (by decide) (by decide) (Or.inl rfl) e1
  refine hM_ic (n := 0) rfl (by decide) rfl (fun x2 q2 => ?_) -- 2
  refine hM_si2 (k := 4) rfl (by decide +kernel) rfl (fun lv3 e3_4 u3 => ?_) -- 3
  have e3_0 := u3 0 _ (by decide) (Or.inl rfl) e1_0
  have e3_1 := u3 1 _ (by decide) (Or.inl rfl) e1_1
  have e3_2 := u3 2 _ (by decide) (Or.inr (by decide)) e1_2
  exact g0 x2 q2 lv3 e3_0 e3_1 e3_2 e3_4
theorem s_up5 {b i : Int} (M : MX 25 W ρ m A h0 h F V G) (e0 : m_lk lv 0 = some (.ref m)) {lx1 : Int32} (e1 : m_lk lv 1 = some (.int lx1)) (lq1 : lx1.toInt = b) {lx2 : Int64} (e2 : m_lk lv 2 = some (.long lx2)) {lx4 : Int32} (e4 : m_lk lv 4 = some (.int lx4)) (lq4 : lx4.toInt = i) (i0 : 0 ≤ i) (i1 : i ≤ 12)
    (g0 : 0 ≤ F 3 → F 3 ≤ 12 → i ≥ F 3 → Q (some (.long lx2)) h)
    (g1 : ∀ z2 : Int, -2147483648 ≤ z2 → z2 ≤ 2147483647 → ∀ z4 : Int, -2147483648 ≤ z4 → z4 ≤ 2147483647 → ∀ x5 : Int32, x5.toInt = i + 1 → ∀ lv5 : List (Nat × Value), m_lk lv5 0 = some (.ref m) → m_lk lv5 1 = some (.int lx1) → m_lk lv5 2 = some (.long lx2) → m_lk lv5 4 = some (.int x5) → 0 ≤ F 3 → F 3 ≤ 12 → i < F 3 → z4 = 0 → HJ 161 5 lv5 [] h Q)
    (g2 : ∀ z2 : Int, -2147483648 ≤ z2 → z2 ≤ 2147483647 → ∀ z4 : Int, -2147483648 ≤ z4 → z4 ≤ 2147483647 → ∀ x6 : Int32, x6.toInt = V 1 (i).toNat → 0 ≤ F 3 → F 3 ≤ 12 → i < F 3 → z4 ≠ 0 → 0 ≤ V 1 (i).toNat → V 1 (i).toNat ≤ 40 → HJ 52 0 (lv_args 0 [.int x6]) [] h (fun v h' => HJ 161 34 lv (v.toList ++ [.long lx2]) h' Q))
    : HJ 161 5 lv [] h Q := by
  refine hI_il2 (k := 4) rfl e4 rfl ?_ -- 5
  refine hI_al (k := 0) rfl e0 rfl ?_ -- 7
  refine hM_gi M (by decide) rfl rfl rfl (k := 3) (c := 5) (lo := 0) (hi := 12) rfl rfl rfl rfl rfl (fun x1 q1 a1 b1 => ?_) -- 8
  refine hM_cge (off := 31) (t := 42) rfl lq4 q1 (by decide) rfl (fun c11 => ?_) (fun c11 => ?_) -- 11
  · refine hI_ll (k := 2) rfl e2 rfl ?_ -- 42
    refine hI_rl rfl rfl ?_
    exact g0 a1 b1 c11
  · refine hI_il (k := 1) rfl e1 rfl ?_ -- 14
    refine hI_il2 (k := 4) rfl e4 rfl ?_ -- 15
    refine hM_iushr rfl rfl (fun x2 z2 q2 a2 b2 => ?_) -- 17
    refine hM_ic (n := 1) rfl (by decide) rfl (fun x3 q3 => ?_) -- 18
    refine hM_iand rfl rfl (fun x4 z4 q4 a4 b4 => ?_) -- 19
    refine hM_zeq (off := 16) (t := 36) rfl q4 (by decide) rfl (fun c20 => ?_) (fun c20 => ?_) -- 20
    · refine hM_inc (k := 4) (z := 1) rfl e4 lq4 (by decide) (by omega) (by omega) (by decide +kernel) rfl (fun lv5 x5 q5 e5_4 u5 => ?_) -- 36
      have e5_0 := u5 0 _ (by decide) (Or.inl rfl) e0
      have e5_1 := u5 1 _ (by decide) (Or.inl rfl) e1
      have e5_2 := u5 2 _ (by decide) (Or.inr (by decide)) e2
      refine hI_go (pc' := 5) (off := (-34)) rfl (by decide) ?_ -- 39
      exact g1 z2 a2 b2 z4 a4 b4 x5 q5 lv5 e5_0 e5_1 e5_2 e5_4 a1 b1 c11 c20
    · refine hI_ll (k := 2) rfl e2 rfl ?_ -- 23
      refine hI_al (k := 0) rfl e0 rfl ?_ -- 24
      refine hM_ga M (by decide) rfl rfl (k := 1) (c := 5) rfl rfl rfl (by decide +kernel) rfl ?_ -- 25
      refine hI_il2 (k := 4) rfl e4 rfl ?_ -- 28
      refine hM_ia M (by decide) (K := 1) (R2 := 27) (L := 12) (H := 12) (lo := 0) (hi := 40) rfl (by decide) rfl rfl (fun _ => rfl) rfl lq4 (by omega) (by omega) rfl (fun x6 q6 a6 b6 => ?_) -- 30
      refine hM_is0 (as := [.int x6]) (r := [.long lx2]) rfl rfl (by decide +kernel) rfl rfl rfl rfl rfl ?_ -- 31
      exact g2 z2 a2 b2 z4 a4 b4 x6 q6 a1 b1 c11 c20 a6 b6
theorem s_up34 {b i : Int} (M : MX 25 W ρ m A h0 h F V G) (e0 : m_lk lv 0 = some (.ref m)) {lx1 : Int32} (e1 : m_lk lv 1 = some (.int lx1)) (lq1 : lx1.toInt = b) {lx4 : Int32} (e4 : m_lk lv 4 = some (.int lx4)) (lq4 : lx4.toInt = i) {sx0 : Int64} {sx1 : Int64} (i0 : 0 ≤ i) (i1 : i ≤ 12)
    (g0 : ∀ x2 : Int32, x2.toInt = i + 1 → ∀ lv2 : List (Nat × Value), m_lk lv2 0 = some (.ref m) → m_lk lv2 1 = some (.int lx1) → m_lk lv2 2 = some (.long (sx0 ||| sx1)) → m_lk lv2 4 = some (.int x2) → HJ 161 5 lv2 [] h Q)
    : HJ 161 34 lv [.long sx1, .long sx0] h Q := by
  refine hI_lor rfl rfl ?_ -- 34
  refine hM_sl (k := 2) rfl (by decide +kernel) rfl (fun lv1 e1_2 u1 => ?_) -- 35
  have e1_0 := u1 0 _ (by decide) (by decide) (Or.inl rfl) e0
  have e1_1 := u1 1 _ (by decide) (by decide) (Or.inl rfl) e1
  have e1_4 := u1 4 _ (by decide) (by decide) (Or.inl rfl) e4
  refine hM_inc (k := 4) (z := 1) rfl e1_4 lq4 (by decide) (by omega) (by omega) (by decide +kernel) rfl (fun lv2 x2 q2 e2_4 u2 => ?_) -- 36
  have e2_0 := u2 0 _ (by decide) (Or.inl rfl) e1_0
  have e2_1 := u2 1 _ (by decide) (Or.inl rfl) e1_1
  have e2_2 := u2 2 _ (by decide) (Or.inr (by decide)) e1_2
  refine hI_go (pc' := 5) (off := (-34)) rfl (by decide) ?_ -- 39
  exact g0 x2 q2 lv2 e2_0 e2_1 e2_2 e2_4
theorem s_ib {y : Int}  {lx0 : Int32} (e0 : m_lk lv 0 = some (.int lx0)) (lq0 : lx0.toInt = y) 
    (g0 : ∀ z2 : Int, -2147483648 ≤ z2 → z2 ≤ 2147483647 → ∀ z3 : Int, -2147483648 ≤ z3 → z3 ≤ 2147483647 → ∀ z4 : Int, -2147483648 ≤ z4 → z4 ≤ 2147483647 → ∀ z5 : Int, -2147483648 ≤ z5 → z5 ≤ 2147483647 → ∀ z7 : Int, -2147483648 ≤ z7 → z7 ≤ 2147483647 → ∀ z8 : Int, -2147483648 ≤ z8 → z8 ≤ 2147483647 → ∀ z10 : Int, -2147483648 ≤ z10 → z10 ≤ 2147483647 → ∀ z11 : Int, -2147483648 ≤ z11 → z11 ≤ 2147483647 → ∀ z12 : Int, -2147483648 ≤ z12 → z12 ≤ 2147483647 → ∀ z13 : Int, -2147483648 ≤ z13 → z13 ≤ 2147483647 → ∀ z16 : Int, -2147483648 ≤ z16 → z16 ≤ 2147483647 → ∀ z17 : Int, -2147483648 ≤ z17 → z17 ≤ 2147483647 → ∀ z18 : Int, -2147483648 ≤ z18 → z18 ≤ 2147483647 → ∀ z19 : Int, -2147483648 ≤ z19 → z19 ≤ 2147483647 → ∀ z22 : Int, -2147483648 ≤ z22 → z22 ≤ 2147483647 → ∀ z23 : Int, -2147483648 ≤ z23 → z23 ≤ 2147483647 → ∀ z26 : Int, -2147483648 ≤ z26 → z26 ≤ 2147483647 → ∀ z27 : Int, -2147483648 ≤ z27 → z27 ≤ 2147483647 → ∀ x30 : Int32, ∀ z30 : Int, x30.toInt = z30 → -2147483648 ≤ z30 → z30 ≤ 2147483647 → ∀ lv28 : List (Nat × Value), Q (some (.int x30)) h)
    : HJ 82 0 lv [] h Q := by
  refine hI_il (k := 0) rfl e0 rfl ?_ -- 0
  refine hI_il (k := 0) rfl e0 rfl ?_ -- 1
  refine hM_ic (n := 1) rfl (by decide) rfl (fun x1 q1 => ?_) -- 2
  refine hM_iushr rfl rfl (fun x2 z2 q2 a2 b2 => ?_) -- 3
  refine hM_lw (w := 3) rfl rfl rfl (fun x3 z3 q3 a3 b3 => ?_) -- 4
  refine hM_iand rfl rfl (fun x4 z4 q4 a4 b4 => ?_) -- 7
  refine hM_subw rfl rfl (fun x5 z5 q5 a5 b5 => ?_) -- 8
  refine hM_si (k := 0) rfl (by decide +kernel) rfl (fun lv6 e6_0 u6 => ?_) -- 9
  refine hI_il (k := 0) rfl e6_0 rfl ?_ -- 10
  refine hM_lw (w := 3) rfl rfl rfl (fun x7 z7 q7 a7 b7 => ?_) -- 11
  refine hM_iand rfl rfl (fun x8 z8 q8 a8 b8 => ?_) -- 14
  refine hI_il (k := 0) rfl e6_0 rfl ?_ -- 15
  refine hM_ic (n := 2) rfl (by decide) rfl (fun x9 q9 => ?_) -- 16
  refine hM_iushr rfl rfl (fun x10 z10 q10 a10 b10 => ?_) -- 17
  refine hM_lw (w := 3) rfl rfl rfl (fun x11 z11 q11 a11 b11 => ?_) -- 18
  refine hM_iand rfl rfl (fun x12 z12 q12 a12 b12 => ?_) -- 21
  refine hM_addw rfl rfl (fun x13 z13 q13 a13 b13 => ?_) -- 22
  refine hM_si (k := 0) rfl (by decide +kernel) rfl (fun lv14 e14_0 u14 => ?_) -- 23
  refine hI_il (k := 0) rfl e14_0 rfl ?_ -- 24
  refine hI_il (k := 0) rfl e14_0 rfl ?_ -- 25
  refine hM_ic (n := 4) rfl (by decide) rfl (fun x15 q15 => ?_) -- 26
  refine hM_iushr rfl rfl (fun x16 z16 q16 a16 b16 => ?_) -- 27
  refine hM_addw rfl rfl (fun x17 z17 q17 a17 b17 => ?_) -- 28
  refine hM_lw (w := 3) rfl rfl rfl (fun x18 z18 q18 a18 b18 => ?_) -- 29
  refine hM_iand rfl rfl (fun x19 z19 q19 a19 b19 => ?_) -- 32
  refine hM_si (k := 0) rfl (by decide +kernel) rfl (fun lv20 e20_0 u20 => ?_) -- 33
  refine hI_il (k := 0) rfl e20_0 rfl ?_ -- 34
  refine hI_il (k := 0) rfl e20_0 rfl ?_ -- 35
  refine hM_bp (n := 8) rfl (by decide) rfl (fun x21 q21 => ?_) -- 36
  refine hM_iushr rfl rfl (fun x22 z22 q22 a22 b22 => ?_) -- 38
  refine hM_addw rfl rfl (fun x23 z23 q23 a23 b23 => ?_) -- 39
  refine hM_si (k := 0) rfl (by decide +kernel) rfl (fun lv24 e24_0 u24 => ?_) -- 40
  refine hI_il (k := 0) rfl e24_0 rfl ?_ -- 41
  refine hI_il (k := 0) rfl e24_0 rfl ?_ -- 42
  refine hM_bp (n := 16) rfl (by decide) rfl (fun x25 q25 => ?_) -- 43
  refine hM_iushr rfl rfl (fun x26 z26 q26 a26 b26 => ?_) -- 45
  refine hM_addw rfl rfl (fun x27 z27 q27 a27 b27 => ?_) -- 46
  refine hM_si (k := 0) rfl (by decide +kernel) rfl (fun lv28 e28_0 u28 => ?_) -- 47
  refine hI_il (k := 0) rfl e28_0 rfl ?_ -- 48
  refine hM_bp (n := 63) rfl (by decide) rfl (fun x29 q29 => ?_) -- 49
  refine hM_iand rfl rfl (fun x30 z30 q30 a30 b30 => ?_) -- 51
  refine hI_ri rfl rfl ?_ -- 52
  exact g0 z2 a2 b2 z3 a3 b3 z4 a4 b4 z5 a5 b5 z7 a7 b7 z8 a8 b8 z10 a10 b10 z11 a11 b11 z12 a12 b12 z13 a13 b13 z16 a16 b16 z17 a17 b17 z18 a18 b18 z19 a19 b19 z22 a22 b22 z23 a23 b23 z26 a26 b26 z27 a27 b27 x30 z30 q30 a30 b30 lv28
theorem s_fk0 (M : MX 25 W ρ m A h0 h F V G) (e0 : m_lk lv 0 = some (.ref m)) {nd : Nat} (e1 : m_lk lv 1 = some (.ref nd)) (hnd : ρ nd = 39) {lx2 : Int64} (e2 : m_lk lv 2 = some (.long lx2)) 
    (g0 : HJ 158 0 (lv_args 0 [.ref m, .long lx2]) [] h (fun v h' => HJ 157 5 lv (v.toList ++ []) h' Q))
    : HJ 157 0 lv [] h Q := by
  refine hI_al (k := 0) rfl e0 rfl ?_ -- 0
  refine hI_ll (k := 2) rfl e2 rfl ?_ -- 1
  refine hM_iv M (by decide) rfl rfl (by decide) (as := [.long lx2]) (r := []) rfl rfl (by decide +kernel) rfl (by decide +kernel) rfl rfl rfl rfl rfl ?_ -- 2
  exact g0 
theorem s_fk5 (M : MX 25 W ρ m A h0 h F V G) (e0 : m_lk lv 0 = some (.ref m)) {nd : Nat} (e1 : m_lk lv 1 = some (.ref nd)) (hnd : ρ nd = 39) {lx2 : Int64} (e2 : m_lk lv 2 = some (.long lx2)) 
    (g0 : ∀ x1 : Int32, x1.toInt = 0 → ∀ lv2 : List (Nat × Value), m_lk lv2 0 = some (.ref m) → m_lk lv2 1 = some (.ref nd) → m_lk lv2 2 = some (.long lx2) → m_lk lv2 4 = some (.int x1) → HJ 157 8 lv2 [] h Q)
    : HJ 157 5 lv [] h Q := by
  refine hM_ic (n := 0) rfl (by decide) rfl (fun x1 q1 => ?_) -- 5
  refine hM_si2 (k := 4) rfl (by decide +kernel) rfl (fun lv2 e2_4 u2 => ?_) -- 6
  have e2_0 := u2 0 _ (by decide) (Or.inl rfl) e0
  have e2_1 := u2 1 _ (by decide) (Or.inl rfl) e1
  have e2_2 := u2 2 _ (by decide) (Or.inr (by decide)) e2
  exact g0 x1 q1 lv2 e2_0 e2_1 e2_2 e2_4
theorem s_fk8 {i : Int} (M : MX 25 W ρ m A h0 h F V G) (e0 : m_lk lv 0 = some (.ref m)) {nd : Nat} (e1 : m_lk lv 1 = some (.ref nd)) (hnd : ρ nd = 39) {lx2 : Int64} (e2 : m_lk lv 2 = some (.long lx2)) {lx4 : Int32} (e4 : m_lk lv 4 = some (.int lx4)) (lq4 : lx4.toInt = i) 
    (g0 : ∀ z1 : Int, 0 ≤ z1 → z1 ≤ 15120 → i ≥ z1 → HJ 157 51 lv [] h Q)
    (g1 : ∀ z1 : Int, 0 ≤ z1 → z1 ≤ 15120 → i < z1 → HJ 99 0 (lv_args 0 [.ref nd, .int lx4]) [] h (fun v h' => HJ 157 24 lv (v.toList ++ [.ref m]) h' Q))
    : HJ 157 8 lv [] h Q := by
  refine hI_il2 (k := 4) rfl e4 rfl ?_ -- 8
  refine hI_al (k := 1) rfl e1 rfl ?_ -- 10
  refine hM_gn (W := W) M.1.1 hnd (by decide) rfl rfl rfl (k := 5) (c := 2) (lo := 0) (hi := 15120) rfl rfl rfl rfl rfl (fun x1 z1 q1 a1 b1 => ?_) -- 11
  refine hM_cge (off := 37) (t := 51) rfl lq4 q1 (by decide) rfl (fun c14 => ?_) (fun c14 => ?_) -- 14
  · exact g0 z1 a1 b1 c14
  · refine hI_al (k := 0) rfl e0 rfl ?_ -- 17
    refine hI_al (k := 1) rfl e1 rfl ?_ -- 18
    refine hI_il2 (k := 4) rfl e4 rfl ?_ -- 19
    refine hM_iv (MX.start (W := W) M.1.1 hnd) (by decide) rfl rfl (by decide) (as := [.int lx4]) (r := [.ref m]) rfl rfl (by decide +kernel) rfl (by decide +kernel) rfl rfl rfl rfl rfl ?_ -- 21
    exact g1 z1 a1 b1 c14
theorem s_fk24 {i : Int} (M : MX 25 W ρ m A h0 h F V G) (e0 : m_lk lv 0 = some (.ref m)) {nd : Nat} (e1 : m_lk lv 1 = some (.ref nd)) (hnd : ρ nd = 39) {lx2 : Int64} (e2 : m_lk lv 2 = some (.long lx2)) {lx4 : Int32} (e4 : m_lk lv 4 = some (.int lx4)) (lq4 : lx4.toInt = i) {sx1 : Int64} 
    (g0 : HJ 159 0 (lv_args 0 [.ref m, .long sx1]) [] h (fun v h' => HJ 157 27 lv (v.toList ++ []) h' Q))
    : HJ 157 24 lv [.long sx1, .ref m] h Q := by
  refine hM_iv M (by decide) rfl rfl (by decide) (as := [.long sx1]) (r := []) rfl rfl (by decide +kernel) rfl (by decide +kernel) rfl rfl rfl rfl rfl ?_ -- 24
  exact g0 
theorem s_fk27 {i b T : Int} (M : MX 25 W ρ m A h0 h F V G) (e0 : m_lk lv 0 = some (.ref m)) {nd : Nat} (e1 : m_lk lv 1 = some (.ref nd)) (hnd : ρ nd = 39) {lx2 : Int64} (e2 : m_lk lv 2 = some (.long lx2)) {lx4 : Int32} (e4 : m_lk lv 4 = some (.int lx4)) (lq4 : lx4.toInt = i) {sx0 : Int32} (sq0 : sx0.toInt = b) (b0 : 0 ≤ b) (b1 : b < T) (i0 : 0 ≤ i) (i1 : i ≤ 15120)(hl0 : ((h_k h0 (A 0)).2 : Int) = T)(hw : d_sub [(26, 1001)] W = true)
    (g0 : ∀ x2 : Int32, x2.toInt = i + 1 → ∀ lv2 : List (Nat × Value), m_lk lv2 0 = some (.ref m) → m_lk lv2 1 = some (.ref nd) → m_lk lv2 2 = some (.long lx2) → m_lk lv2 4 = some (.int x2) → b = 0 → HJ 157 8 lv2 [] h Q)
    (g1 : ∀ z3 : Int, -2147483648 ≤ z3 → z3 ≤ 2147483647 → ∀ z5 : Int, -2147483648 ≤ z5 → z5 ≤ 2147483647 → ∀ h6 : MH, ∀ V6 : Nat → Nat → Int, ∀ x7 : Int32, x7.toInt = i + 1 → ∀ lv7 : List (Nat × Value), MX 25 W ρ m A h0 h6 F V6 G → m_lk lv7 0 = some (.ref m) → m_lk lv7 1 = some (.ref nd) → m_lk lv7 2 = some (.long lx2) → m_lk lv7 4 = some (.int x7) → b ≠ 0 → HJ 157 8 lv7 [] h6 Q)
    : HJ 157 27 lv [.int sx0] h Q := by
  refine hM_si2 (k := 5) rfl (by decide +kernel) rfl (fun lv1 e1_5 u1 => ?_) -- 27
  have e1_0 := u1 0 _ (by decide) (Or.inl rfl) e0
  have e1_1 := u1 1 _ (by decide) (Or.inl rfl) e1
  have e1_2 := u1 2 _ (by decide) (Or.inr (by decide)) e2
  have e1_4 := u1 4 _ (by decide) (Or.inl rfl) e4
  refine hI_il2 (k := 5) rfl e1_5 rfl ?_ -- 29
  refine hM_zeq (off := 14) (t := 45) rfl sq0 (by decide) rfl (fun c31 => ?_) (fun c31 => ?_) -- 31
  · refine hM_inc (k := 4) (z := 1) rfl e1_4 lq4 (by decide) (by omega) (by omega) (by decide +kernel) rfl (fun lv2 x2 q2 e2_4 u2 => ?_) -- 45
    have e2_0 := u2 0 _ (by decide) (Or.inl rfl) e1_0
    have e2_1 := u2 1 _ (by decide) (Or.inl rfl) e1_1
    have e2_2 := u2 2 _ (by decide) (Or.inr (by decide)) e1_2
    have e2_5 := u2 5 _ (by decide) (Or.inl rfl) e1_5
    refine hI_go (pc' := 8) (off := (-40)) rfl (by decide) ?_ -- 48
    exact g0 x2 q2 lv2 e2_0 e2_1 e2_2 e2_4 c31
  · refine hI_al (k := 0) rfl e1_0 rfl ?_ -- 34
    refine hM_ga M (by decide) rfl rfl (k := 0) (c := 5) rfl rfl rfl (by decide +kernel) rfl ?_ -- 35
    refine hI_il2 (k := 5) rfl e1_5 rfl ?_ -- 38
    refine hI_dup2 rfl rfl rfl rfl ?_ -- 40
    refine hM_iav M (by decide) (K := 0) (R2 := 26) (L := 1) (H := 4096) rfl (by decide) rfl rfl hl0 rfl sq0 (by omega) (by omega) rfl (fun x3 z3 q3 a3 b3 => ?_) -- 41
    refine hM_ic (n := 1) rfl (by decide) rfl (fun x4 q4 => ?_) -- 42
    refine hM_addw rfl rfl (fun x5 z5 q5 a5 b5 => ?_) -- 43
    refine hM_isv M (by decide) ok_25 (K := 0) (R2 := 26) (L := 1) (H := 4096) rfl (by decide) rfl rfl rfl (fun _ => rfl) (d_subm hw (by decide +kernel)) hl0 rfl sq0 (by omega) (by omega) rfl (fun h6 V6 M6 => ?_) -- 44
    refine hM_inc (k := 4) (z := 1) rfl e1_4 lq4 (by decide) (by omega) (by omega) (by decide +kernel) rfl (fun lv7 x7 q7 e7_4 u7 => ?_) -- 45
    have e7_0 := u7 0 _ (by decide) (Or.inl rfl) e1_0
    have e7_1 := u7 1 _ (by decide) (Or.inl rfl) e1_1
    have e7_2 := u7 2 _ (by decide) (Or.inr (by decide)) e1_2
    have e7_5 := u7 5 _ (by decide) (Or.inl rfl) e1_5
    refine hI_go (pc' := 8) (off := (-40)) rfl (by decide) ?_ -- 48
    exact g1 z3 a3 b3 z5 a5 b5 h6 V6 x7 q7 lv7 M6 e7_0 e7_1 e7_2 e7_4 c31
theorem s_fk51 (M : MX 25 W ρ m A h0 h F V G) (e0 : m_lk lv 0 = some (.ref m)) 
    (g0 : HJ 160 0 (lv_args 0 [.ref m]) [] h (fun v h' => HJ 157 55 lv (v.toList ++ []) h' Q))
    : HJ 157 51 lv [] h Q := by
  refine hI_al (k := 0) rfl e0 rfl ?_ -- 51
  refine hM_iv M (by decide) rfl rfl (by decide) (as := []) (r := []) rfl rfl (by decide +kernel) rfl (by decide +kernel) rfl rfl rfl rfl rfl ?_ -- 52
  exact g0 
theorem s_fk55 (M : MX 25 W ρ m A h0 h F V G) (e0 : m_lk lv 0 = some (.ref m)) (k1 : (2 : Int) ^ (F 3).toNat ≤ 4096) (k0 : 1 ≤ (2 : Int) ^ (F 3).toNat)
    (g0 : ∀ x5 : Int32, x5.toInt = ((2 : Int) ^ (F 3).toNat) - 1 → ∀ x8 : Int32, x8.toInt = 0 → ∀ lv9 : List (Nat × Value), m_lk lv9 0 = some (.ref m) → m_lk lv9 4 = some (.int x5) → m_lk lv9 5 = some (.int x5) → m_lk lv9 6 = some (.int x8) → 0 ≤ F 3 → F 3 ≤ 12 → HJ 157 72 lv9 [] h Q)
    : HJ 157 55 lv [] h Q := by
  refine hM_ic (n := 1) rfl (by decide) rfl (fun x1 q1 => ?_) -- 55
  refine hI_al (k := 0) rfl e0 rfl ?_ -- 56
  refine hM_gi M (by decide) rfl rfl rfl (k := 3) (c := 5) (lo := 0) (hi := 12) rfl rfl rfl rfl rfl (fun x2 q2 a2 b2 => ?_) -- 57
  refine hM_shl rfl q1 q2 (by omega) (by omega) rfl (fun x3 q3 => ?_) -- 60
  refine hM_ic (n := 1) rfl (by decide) rfl (fun x4 q4 => ?_) -- 61
  refine hM_sub rfl q3 q4 (by omega) (by omega) rfl (fun x5 q5 => ?_) -- 62
  refine hM_si2 (k := 4) rfl (by decide +kernel) rfl (fun lv6 e6_4 u6 => ?_) -- 63
  have e6_0 := u6 0 _ (by decide) (Or.inl rfl) e0
  refine hI_il2 (k := 4) rfl e6_4 rfl ?_ -- 65
  refine hM_si2 (k := 5) rfl (by decide +kernel) rfl (fun lv7 e7_5 u7 => ?_) -- 67
  have e7_0 := u7 0 _ (by decide) (Or.inl rfl) e6_0
  have e7_4 := u7 4 _ (by decide) (Or.inl rfl) e6_4
  refine hM_ic (n := 0) rfl (by decide) rfl (fun x8 q8 => ?_) -- 69
  refine hM_si2 (k := 6) rfl (by decide +kernel) rfl (fun lv9 e9_6 u9 => ?_) -- 70
  have e9_0 := u9 0 _ (by decide) (Or.inl rfl) e7_0
  have e9_4 := u9 4 _ (by decide) (Or.inl rfl) e7_4
  have e9_5 := u9 5 _ (by decide) (Or.inl rfl) e7_5
  exact g0 x5 q5 x8 q8 lv9 e9_0 e9_4 e9_5 e9_6 a2 b2
theorem s_fk72 {a b j T : Int} (M : MX 25 W ρ m A h0 h F V G) (e0 : m_lk lv 0 = some (.ref m)) {lx4 : Int32} (e4 : m_lk lv 4 = some (.int lx4)) (lq4 : lx4.toInt = a) {lx5 : Int32} (e5 : m_lk lv 5 = some (.int lx5)) (lq5 : lx5.toInt = b) {lx6 : Int32} (e6 : m_lk lv 6 = some (.int lx6)) (lq6 : lx6.toInt = j) (j0 : 0 ≤ j) (a1 : a ≤ 4096) (f12 : F 3 ≤ 12) (ak : a < (2 : Int) ^ (F 3).toNat) (tl : (2 : Int) ^ (F 3).toNat ≤ T)(hl0 : ((h_k h0 (A 0)).2 : Int) = T)
    (g0 : j ≥ a → HJ 157 115 lv [] h Q)
    (g1 : ∀ z2 : Int, -2147483648 ≤ z2 → z2 ≤ 2147483647 → ∀ x3 : Int32, x3.toInt = j + 1 → ∀ lv3 : List (Nat × Value), m_lk lv3 0 = some (.ref m) → m_lk lv3 4 = some (.int lx4) → m_lk lv3 5 = some (.int lx5) → m_lk lv3 6 = some (.int x3) → j < a → z2 ≠ 0 → HJ 157 72 lv3 [] h Q)
    (g2 : ∀ z2 : Int, -2147483648 ≤ z2 → z2 ≤ 2147483647 → j < a → z2 = 0 → HJ 82 0 (lv_args 0 [.int lx6]) [] h (fun v h' => HJ 157 97 lv (v.toList ++ []) h' Q))
    : HJ 157 72 lv [] h Q := by
  refine hI_il2 (k := 6) rfl e6 rfl ?_ -- 72
  refine hI_il2 (k := 4) rfl e4 rfl ?_ -- 74
  refine hM_cge (off := 39) (t := 115) rfl lq6 lq4 (by decide) rfl (fun c76 => ?_) (fun c76 => ?_) -- 76
  · exact g0 c76
  · refine hI_al (k := 0) rfl e0 rfl ?_ -- 79
    refine hM_ga M (by decide) rfl rfl (k := 0) (c := 5) rfl rfl rfl (by decide +kernel) rfl ?_ -- 80
    refine hI_il2 (k := 4) rfl e4 rfl ?_ -- 83
    refine hI_il2 (k := 6) rfl e6 rfl ?_ -- 85
    refine hM_ixorx rfl rfl (fun x1 q1 => ?_) -- 87
    have ⟨u0, u1⟩ := fk_x lq4 lq6 j0 c76 ak f12
    refine hM_iav M (by decide) (K := 0) (R2 := 26) (L := 1) (H := 4096) rfl (by decide) rfl rfl hl0 rfl q1 (by omega) (by omega) rfl (fun x2 z2 q2 a2 b2 => ?_) -- 88
    refine hM_zne (off := 20) (t := 109) rfl q2 (by decide) rfl (fun c89 => ?_) (fun c89 => ?_) -- 89
    · refine hM_inc (k := 6) (z := 1) rfl e6 lq6 (by decide) (by omega) (by omega) (by decide +kernel) rfl (fun lv3 x3 q3 e3_6 u3 => ?_) -- 109
      have e3_0 := u3 0 _ (by decide) (Or.inl rfl) e0
      have e3_4 := u3 4 _ (by decide) (Or.inl rfl) e4
      have e3_5 := u3 5 _ (by decide) (Or.inl rfl) e5
      refine hI_go (pc' := 72) (off := (-40)) rfl (by decide) ?_ -- 112
      exact g1 z2 a2 b2 x3 q3 lv3 e3_0 e3_4 e3_5 e3_6 c76 c89
    · refine hI_il2 (k := 6) rfl e6 rfl ?_ -- 92
      refine hM_is0 (as := [.int lx6]) (r := []) rfl rfl (by decide +kernel) rfl rfl rfl rfl rfl ?_ -- 94
      exact g2 z2 a2 b2 c76 c89
theorem s_fk97 {a b j y : Int} (M : MX 25 W ρ m A h0 h F V G) (e0 : m_lk lv 0 = some (.ref m)) {lx4 : Int32} (e4 : m_lk lv 4 = some (.int lx4)) (lq4 : lx4.toInt = a) {lx5 : Int32} (e5 : m_lk lv 5 = some (.int lx5)) (lq5 : lx5.toInt = b) {lx6 : Int32} (e6 : m_lk lv 6 = some (.int lx6)) (lq6 : lx6.toInt = j) {sx0 : Int32} (sq0 : sx0.toInt = y) 
    (g0 : HJ 82 0 (lv_args 0 [.int lx5]) [] h (fun v h' => HJ 157 102 lv (v.toList ++ [.int sx0]) h' Q))
    : HJ 157 97 lv [.int sx0] h Q := by
  refine hI_il2 (k := 5) rfl e5 rfl ?_ -- 97
  refine hM_is0 (as := [.int lx5]) (r := [.int sx0]) rfl rfl (by decide +kernel) rfl rfl rfl rfl rfl ?_ -- 99
  exact g0 
theorem s_fk102 {a b j y z : Int} (M : MX 25 W ρ m A h0 h F V G) (e0 : m_lk lv 0 = some (.ref m)) {lx4 : Int32} (e4 : m_lk lv 4 = some (.int lx4)) (lq4 : lx4.toInt = a) {lx5 : Int32} (e5 : m_lk lv 5 = some (.int lx5)) (lq5 : lx5.toInt = b) {lx6 : Int32} (e6 : m_lk lv 6 = some (.int lx6)) (lq6 : lx6.toInt = j) {sx0 : Int32} (sq0 : sx0.toInt = y) {sx1 : Int32} (sq1 : sx1.toInt = z) (j0 : 0 ≤ j) (j1 : j ≤ 4096)
    (g0 : ∀ x1 : Int32, x1.toInt = j + 1 → ∀ lv1 : List (Nat × Value), m_lk lv1 0 = some (.ref m) → m_lk lv1 4 = some (.int lx4) → m_lk lv1 5 = some (.int lx5) → m_lk lv1 6 = some (.int x1) → y ≥ z → HJ 157 72 lv1 [] h Q)
    (g1 : ∀ x3 : Int32, x3.toInt = j + 1 → ∀ lv3 : List (Nat × Value), m_lk lv3 0 = some (.ref m) → m_lk lv3 4 = some (.int lx4) → m_lk lv3 5 = some (.int lx6) → m_lk lv3 6 = some (.int x3) → y < z → HJ 157 72 lv3 [] h Q)
    : HJ 157 102 lv [.int sx1, .int sx0] h Q := by
  refine hM_cge (off := 7) (t := 109) rfl sq0 sq1 (by decide) rfl (fun c102 => ?_) (fun c102 => ?_) -- 102
  · refine hM_inc (k := 6) (z := 1) rfl e6 lq6 (by decide) (by omega) (by omega) (by decide +kernel) rfl (fun lv1 x1 q1 e1_6 u1 => ?_) -- 109
    have e1_0 := u1 0 _ (by decide) (Or.inl rfl) e0
    have e1_4 := u1 4 _ (by decide) (Or.inl rfl) e4
    have e1_5 := u1 5 _ (by decide) (Or.inl rfl) e5
    refine hI_go (pc' := 72) (off := (-40)) rfl (by decide) ?_ -- 112
    exact g0 x1 q1 lv1 e1_0 e1_4 e1_5 e1_6 c102
  · refine hI_il2 (k := 6) rfl e6 rfl ?_ -- 105
    refine hM_si2 (k := 5) rfl (by decide +kernel) rfl (fun lv2 e2_5 u2 => ?_) -- 107
    have e2_0 := u2 0 _ (by decide) (Or.inl rfl) e0
    have e2_4 := u2 4 _ (by decide) (Or.inl rfl) e4
    have e2_6 := u2 6 _ (by decide) (Or.inl rfl) e6
    refine hM_inc (k := 6) (z := 1) rfl e2_6 lq6 (by decide) (by omega) (by omega) (by decide +kernel) rfl (fun lv3 x3 q3 e3_6 u3 => ?_) -- 109
    have e3_0 := u3 0 _ (by decide) (Or.inl rfl) e2_0
    have e3_4 := u3 4 _ (by decide) (Or.inl rfl) e2_4
    have e3_5 := u3 5 _ (by decide) (Or.inl rfl) e2_5
    refine hI_go (pc' := 72) (off := (-40)) rfl (by decide) ?_ -- 112
    exact g1 x3 q3 lv3 e3_0 e3_4 e3_5 e3_6 c102
theorem s_fk115 {b : Int} (M : MX 25 W ρ m A h0 h F V G) (e0 : m_lk lv 0 = some (.ref m)) {lx5 : Int32} (e5 : m_lk lv 5 = some (.int lx5)) (lq5 : lx5.toInt = b) 
    (g0 : HJ 161 0 (lv_args 0 [.ref m, .int lx5]) [] h (fun v h' => HJ 157 121 lv (v.toList ++ []) h' Q))
    : HJ 157 115 lv [] h Q := by
  refine hI_al (k := 0) rfl e0 rfl ?_ -- 115
  refine hI_il2 (k := 5) rfl e5 rfl ?_ -- 116
  refine hM_iv M (by decide) rfl rfl (by decide) (as := [.int lx5]) (r := []) rfl rfl (by decide +kernel) rfl (by decide +kernel) rfl rfl rfl rfl rfl ?_ -- 118
  exact g0 
theorem s_fk121  {sx0 : Int64} 
    (g0 : Q (some (.long sx0)) h)
    : HJ 157 121 lv [.long sx0] h Q := by
  refine hI_rl rfl rfl ?_
  exact g0 
theorem s_gv0 (M : MX 25 W ρ m A h0 h F V G) (e0 : m_lk lv 0 = some (.ref m)) {nd : Nat} (e1 : m_lk lv 1 = some (.ref nd)) (hnd : ρ nd = 39) {lx2 : Int64} (e2 : m_lk lv 2 = some (.long lx2)) 
    (g0 : HJ 158 0 (lv_args 0 [.ref m, .long lx2]) [] h (fun v h' => HJ 163 5 lv (v.toList ++ []) h' Q))
    : HJ 163 0 lv [] h Q := by
  refine hI_al (k := 0) rfl e0 rfl ?_ -- 0
  refine hI_ll (k := 2) rfl e2 rfl ?_ -- 1
  refine hM_iv M (by decide) rfl rfl (by decide) (as := [.long lx2]) (r := []) rfl rfl (by decide +kernel) rfl (by decide +kernel) rfl rfl rfl rfl rfl ?_ -- 2
  exact g0 
theorem s_gv5 {n : Int} (M : MX 25 W ρ m A h0 h F V G) (e0 : m_lk lv 0 = some (.ref m)) {nd : Nat} (e1 : m_lk lv 1 = some (.ref nd)) (hnd : ρ nd = 39) {lx2 : Int64} (e2 : m_lk lv 2 = some (.long lx2)) {lx4 : Int32} (e4 : m_lk lv 4 = some (.int lx4)) (lq4 : lx4.toInt = n) 
    (g0 : ∀ x1 : Int32, x1.toInt = 0 → ∀ lv2 : List (Nat × Value), m_lk lv2 0 = some (.ref m) → m_lk lv2 1 = some (.ref nd) → m_lk lv2 2 = some (.long lx2) → m_lk lv2 4 = some (.int lx4) → m_lk lv2 5 = some (.int x1) → HJ 163 8 lv2 [] h Q)
    : HJ 163 5 lv [] h Q := by
  refine hM_ic (n := 0) rfl (by decide) rfl (fun x1 q1 => ?_) -- 5
  refine hM_si2 (k := 5) rfl (by decide +kernel) rfl (fun lv2 e2_5 u2 => ?_) -- 6
  have e2_0 := u2 0 _ (by decide) (Or.inl rfl) e0
  have e2_1 := u2 1 _ (by decide) (Or.inl rfl) e1
  have e2_2 := u2 2 _ (by decide) (Or.inr (by decide)) e2
  have e2_4 := u2 4 _ (by decide) (Or.inl rfl) e4
  exact g0 x1 q1 lv2 e2_0 e2_1 e2_2 e2_4 e2_5
theorem s_gv8 {n i : Int} (M : MX 25 W ρ m A h0 h F V G) (e0 : m_lk lv 0 = some (.ref m)) {nd : Nat} (e1 : m_lk lv 1 = some (.ref nd)) (hnd : ρ nd = 39) {lx2 : Int64} (e2 : m_lk lv 2 = some (.long lx2)) {lx4 : Int32} (e4 : m_lk lv 4 = some (.int lx4)) (lq4 : lx4.toInt = n) {lx5 : Int32} (e5 : m_lk lv 5 = some (.int lx5)) (lq5 : lx5.toInt = i) 
    (g0 : ∀ z1 : Int, 0 ≤ z1 → z1 ≤ 15120 → i ≥ z1 → HJ 163 59 lv [] h Q)
    (g1 : ∀ z1 : Int, 0 ≤ z1 → z1 ≤ 15120 → i < z1 → HJ 99 0 (lv_args 0 [.ref nd, .int lx5]) [] h (fun v h' => HJ 163 23 lv (v.toList ++ []) h' Q))
    : HJ 163 8 lv [] h Q := by
  refine hI_il2 (k := 5) rfl e5 rfl ?_ -- 8
  refine hI_al (k := 1) rfl e1 rfl ?_ -- 10
  refine hM_gn (W := W) M.1.1 hnd (by decide) rfl rfl rfl (k := 5) (c := 2) (lo := 0) (hi := 15120) rfl rfl rfl rfl rfl (fun x1 z1 q1 a1 b1 => ?_) -- 11
  refine hM_cge (off := 45) (t := 59) rfl lq5 q1 (by decide) rfl (fun c14 => ?_) (fun c14 => ?_) -- 14
  · exact g0 z1 a1 b1 c14
  · refine hI_al (k := 1) rfl e1 rfl ?_ -- 17
    refine hI_il2 (k := 5) rfl e5 rfl ?_ -- 18
    refine hM_iv (MX.start (W := W) M.1.1 hnd) (by decide) rfl rfl (by decide) (as := [.int lx5]) (r := []) rfl rfl (by decide +kernel) rfl (by decide +kernel) rfl rfl rfl rfl rfl ?_ -- 20
    exact g1 z1 a1 b1 c14
theorem s_gv23 {n i : Int} (M : MX 25 W ρ m A h0 h F V G) (e0 : m_lk lv 0 = some (.ref m)) {nd : Nat} (e1 : m_lk lv 1 = some (.ref nd)) (hnd : ρ nd = 39) {lx2 : Int64} (e2 : m_lk lv 2 = some (.long lx2)) {lx4 : Int32} (e4 : m_lk lv 4 = some (.int lx4)) (lq4 : lx4.toInt = n) {lx5 : Int32} (e5 : m_lk lv 5 = some (.int lx5)) (lq5 : lx5.toInt = i) {sx0 : Int64} (i0 : 0 ≤ i) (i1 : i ≤ 15120)
    (g0 : ∀ x3 : Int32, x3.toInt = i + 1 → ∀ lv3 : List (Nat × Value), m_lk lv3 0 = some (.ref m) → m_lk lv3 1 = some (.ref nd) → m_lk lv3 2 = some (.long lx2) → m_lk lv3 4 = some (.int lx4) → m_lk lv3 5 = some (.int x3) → (lg_cmp (sx0 &&& (lx2 ^^^ (-1))) (Int64.ofNat (0 : Fin 2).val)).toInt ≠ 0 → HJ 163 8 lv3 [] h Q)
    (g1 : ∀ lv1 : List (Nat × Value), m_lk lv1 0 = some (.ref m) → m_lk lv1 1 = some (.ref nd) → m_lk lv1 2 = some (.long lx2) → m_lk lv1 4 = some (.int lx4) → m_lk lv1 5 = some (.int lx5) → (lg_cmp (sx0 &&& (lx2 ^^^ (-1))) (Int64.ofNat (0 : Fin 2).val)).toInt = 0 → HJ 159 0 (lv_args 0 [.ref m, .long sx0]) [] h (fun v h' => HJ 163 48 lv1 (v.toList ++ [.ref (A 0)]) h' Q))
    : HJ 163 23 lv [.long sx0] h Q := by
  refine hM_sl2 (k := 6) rfl (by decide +kernel) rfl (fun lv1 e1_6 u1 => ?_) -- 23
  have e1_0 := u1 0 _ (by decide) (by decide) (Or.inl rfl) e0
  have e1_1 := u1 1 _ (by decide) (by decide) (Or.inl rfl) e1
  have e1_2 := u1 2 _ (by decide) (by decide) (Or.inr (by decide)) e2
  have e1_4 := u1 4 _ (by decide) (by decide) (Or.inl rfl) e4
  have e1_5 := u1 5 _ (by decide) (by decide) (Or.inl rfl) e5
  refine hI_ll2 (k := 6) rfl e1_6 rfl ?_ -- 25
  refine hI_ll (k := 2) rfl e1_2 rfl ?_ -- 27
  refine hM_jc (x := (-1)) rfl rfl rfl ?_ -- 28
  refine hI_lxor rfl rfl ?_ -- 31
  refine hI_land rfl rfl ?_ -- 32
  refine hI_lc (n := 0) rfl rfl ?_ -- 33
  refine hM_lcmp rfl rfl (fun x2 q2 => ?_) -- 34
  refine hM_zne (off := 18) (t := 53) rfl q2 (by decide) rfl (fun c35 => ?_) (fun c35 => ?_) -- 35
  · refine hM_inc (k := 5) (z := 1) rfl e1_5 lq5 (by decide) (by omega) (by omega) (by decide +kernel) rfl (fun lv3 x3 q3 e3_5 u3 => ?_) -- 53
    have e3_0 := u3 0 _ (by decide) (Or.inl rfl) e1_0
    have e3_1 := u3 1 _ (by decide) (Or.inl rfl) e1_1
    have e3_2 := u3 2 _ (by decide) (Or.inr (by decide)) e1_2
    have e3_4 := u3 4 _ (by decide) (Or.inl rfl) e1_4
    have e3_6 := u3 6 _ (by decide) (Or.inr (by decide)) e1_6
    refine hI_go (pc' := 8) (off := (-48)) rfl (by decide) ?_ -- 56
    exact g0 x3 q3 lv3 e3_0 e3_1 e3_2 e3_4 e3_5 c35
  · refine hI_al (k := 0) rfl e1_0 rfl ?_ -- 38
    refine hM_ga M (by decide) rfl rfl (k := 0) (c := 5) rfl rfl rfl (by decide +kernel) rfl ?_ -- 39
    refine hI_al (k := 0) rfl e1_0 rfl ?_ -- 42
    refine hI_ll2 (k := 6) rfl e1_6 rfl ?_ -- 43
    refine hM_iv M (by decide) rfl rfl (by decide) (as := [.long sx0]) (r := [.ref (A 0)]) rfl rfl (by decide +kernel) rfl (by decide +kernel) rfl rfl rfl rfl rfl ?_ -- 45
    exact g1 lv1 e1_0 e1_1 e1_2 e1_4 e1_5 c35
theorem s_gv48 {n i b T : Int} (M : MX 25 W ρ m A h0 h F V G) (e0 : m_lk lv 0 = some (.ref m)) {nd : Nat} (e1 : m_lk lv 1 = some (.ref nd)) (hnd : ρ nd = 39) {lx2 : Int64} (e2 : m_lk lv 2 = some (.long lx2)) {lx4 : Int32} (e4 : m_lk lv 4 = some (.int lx4)) (lq4 : lx4.toInt = n) {lx5 : Int32} (e5 : m_lk lv 5 = some (.int lx5)) (lq5 : lx5.toInt = i) {sx1 : Int32} (sq1 : sx1.toInt = b) (b0 : 0 ≤ b) (b1 : b < T) (i0 : 0 ≤ i) (i1 : i ≤ 15120)(hl0 : ((h_k h0 (A 0)).2 : Int) = T)(hw : d_sub [(26, 1001)] W = true)
    (g0 : ∀ z1 : Int, -2147483648 ≤ z1 → z1 ≤ 2147483647 → ∀ z3 : Int, -2147483648 ≤ z3 → z3 ≤ 2147483647 → ∀ h4 : MH, ∀ V4 : Nat → Nat → Int, ∀ x5 : Int32, x5.toInt = i + 1 → ∀ lv5 : List (Nat × Value), MX 25 W ρ m A h0 h4 F V4 G → m_lk lv5 0 = some (.ref m) → m_lk lv5 1 = some (.ref nd) → m_lk lv5 2 = some (.long lx2) → m_lk lv5 4 = some (.int lx4) → m_lk lv5 5 = some (.int x5) → HJ 163 8 lv5 [] h4 Q)
    : HJ 163 48 lv [.int sx1, .ref (A 0)] h Q := by
  refine hI_dup2 rfl rfl rfl rfl ?_ -- 48
  refine hM_iav M (by decide) (K := 0) (R2 := 26) (L := 1) (H := 4096) rfl (by decide) rfl rfl hl0 rfl sq1 (by omega) (by omega) rfl (fun x1 z1 q1 a1 b1 => ?_) -- 49
  refine hM_ic (n := 1) rfl (by decide) rfl (fun x2 q2 => ?_) -- 50
  refine hM_addw rfl rfl (fun x3 z3 q3 a3 b3 => ?_) -- 51
  refine hM_isv M (by decide) ok_25 (K := 0) (R2 := 26) (L := 1) (H := 4096) rfl (by decide) rfl rfl rfl (fun _ => rfl) (d_subm hw (by decide +kernel)) hl0 rfl sq1 (by omega) (by omega) rfl (fun h4 V4 M4 => ?_) -- 52
  refine hM_inc (k := 5) (z := 1) rfl e5 lq5 (by decide) (by omega) (by omega) (by decide +kernel) rfl (fun lv5 x5 q5 e5_5 u5 => ?_) -- 53
  have e5_0 := u5 0 _ (by decide) (Or.inl rfl) e0
  have e5_1 := u5 1 _ (by decide) (Or.inl rfl) e1
  have e5_2 := u5 2 _ (by decide) (Or.inr (by decide)) e2
  have e5_4 := u5 4 _ (by decide) (Or.inl rfl) e4
  refine hI_go (pc' := 8) (off := (-48)) rfl (by decide) ?_ -- 56
  exact g0 z1 a1 b1 z3 a3 b3 h4 V4 x5 q5 lv5 M4 e5_0 e5_1 e5_2 e5_4 e5_5
theorem s_gv59 {n : Int} (M : MX 25 W ρ m A h0 h F V G) (e0 : m_lk lv 0 = some (.ref m)) {lx4 : Int32} (e4 : m_lk lv 4 = some (.int lx4)) (lq4 : lx4.toInt = n) 
    (g0 : HJ 160 0 (lv_args 0 [.ref m]) [] h (fun v h' => HJ 163 63 lv (v.toList ++ []) h' Q))
    : HJ 163 59 lv [] h Q := by
  refine hI_al (k := 0) rfl e0 rfl ?_ -- 59
  refine hM_iv M (by decide) rfl rfl (by decide) (as := []) (r := []) rfl rfl (by decide +kernel) rfl (by decide +kernel) rfl rfl rfl rfl rfl ?_ -- 60
  exact g0 
theorem s_gv63 {n : Int} (M : MX 25 W ρ m A h0 h F V G) (e0 : m_lk lv 0 = some (.ref m)) {lx4 : Int32} (e4 : m_lk lv 4 = some (.int lx4)) (lq4 : lx4.toInt = n) 
    (g0 : ∀ x1 : Int32, x1.toInt = (-1) → ∀ x3 : Int32, x3.toInt = 0 → ∀ lv4 : List (Nat × Value), m_lk lv4 0 = some (.ref m) → m_lk lv4 4 = some (.int lx4) → m_lk lv4 5 = some (.int x1) → m_lk lv4 6 = some (.int x3) → HJ 163 69 lv4 [] h Q)
    : HJ 163 63 lv [] h Q := by
  refine hM_ic (n := (-1)) rfl (by decide) rfl (fun x1 q1 => ?_) -- 63
  refine hM_si2 (k := 5) rfl (by decide +kernel) rfl (fun lv2 e2_5 u2 => ?_) -- 64
  have e2_0 := u2 0 _ (by decide) (Or.inl rfl) e0
  have e2_4 := u2 4 _ (by decide) (Or.inl rfl) e4
  refine hM_ic (n := 0) rfl (by decide) rfl (fun x3 q3 => ?_) -- 66
  refine hM_si2 (k := 6) rfl (by decide +kernel) rfl (fun lv4 e4_6 u4 => ?_) -- 67
  have e4_0 := u4 0 _ (by decide) (Or.inl rfl) e2_0
  have e4_4 := u4 4 _ (by decide) (Or.inl rfl) e2_4
  have e4_5 := u4 5 _ (by decide) (Or.inl rfl) e2_5
  exact g0 x1 q1 x3 q3 lv4 e4_0 e4_4 e4_5 e4_6
theorem s_gv69 {n b j T : Int} (M : MX 25 W ρ m A h0 h F V G) (e0 : m_lk lv 0 = some (.ref m)) {lx4 : Int32} (e4 : m_lk lv 4 = some (.int lx4)) (lq4 : lx4.toInt = n) {lx5 : Int32} (e5 : m_lk lv 5 = some (.int lx5)) (lq5 : lx5.toInt = b) {lx6 : Int32} (e6 : m_lk lv 6 = some (.int lx6)) (lq6 : lx6.toInt = j) (j0 : 0 ≤ j) (k1 : (2 : Int) ^ (F 3).toNat ≤ 4096) (tl : (2 : Int) ^ (F 3).toNat ≤ T)(hl0 : ((h_k h0 (A 0)).2 : Int) = T)
    (g0 : 0 ≤ F 3 → F 3 ≤ 12 → j ≥ (2 : Int) ^ (F 3).toNat → HJ 163 121 lv [] h Q)
    (g1 : ∀ z4 : Int, -2147483648 ≤ z4 → z4 ≤ 2147483647 → ∀ x5 : Int32, x5.toInt = j + 1 → ∀ lv5 : List (Nat × Value), m_lk lv5 0 = some (.ref m) → m_lk lv5 4 = some (.int lx4) → m_lk lv5 5 = some (.int lx5) → m_lk lv5 6 = some (.int x5) → 0 ≤ F 3 → F 3 ≤ 12 → j < (2 : Int) ^ (F 3).toNat → z4 < n → HJ 163 69 lv5 [] h Q)
    (g2 : ∀ z4 : Int, -2147483648 ≤ z4 → z4 ≤ 2147483647 → ∀ x8 : Int32, x8.toInt = j + 1 → ∀ lv8 : List (Nat × Value), m_lk lv8 0 = some (.ref m) → m_lk lv8 4 = some (.int lx4) → m_lk lv8 5 = some (.int lx6) → m_lk lv8 6 = some (.int x8) → 0 ≤ F 3 → F 3 ≤ 12 → j < (2 : Int) ^ (F 3).toNat → z4 ≥ n → b = (-1) → HJ 163 69 lv8 [] h Q)
    (g3 : ∀ z4 : Int, -2147483648 ≤ z4 → z4 ≤ 2147483647 → 0 ≤ F 3 → F 3 ≤ 12 → j < (2 : Int) ^ (F 3).toNat → z4 ≥ n → b ≠ (-1) → HJ 82 0 (lv_args 0 [.int lx6]) [] h (fun v h' => HJ 163 103 lv (v.toList ++ []) h' Q))
    : HJ 163 69 lv [] h Q := by
  refine hI_il2 (k := 6) rfl e6 rfl ?_ -- 69
  refine hM_ic (n := 1) rfl (by decide) rfl (fun x1 q1 => ?_) -- 71
  refine hI_al (k := 0) rfl e0 rfl ?_ -- 72
  refine hM_gi M (by decide) rfl rfl rfl (k := 3) (c := 5) (lo := 0) (hi := 12) rfl rfl rfl rfl rfl (fun x2 q2 a2 b2 => ?_) -- 73
  refine hM_shl rfl q1 q2 (by omega) (by omega) rfl (fun x3 q3 => ?_) -- 76
  refine hM_cge (off := 44) (t := 121) rfl lq6 q3 (by decide) rfl (fun c77 => ?_) (fun c77 => ?_) -- 77
  · exact g0 a2 b2 c77
  · refine hI_al (k := 0) rfl e0 rfl ?_ -- 80
    refine hM_ga M (by decide) rfl rfl (k := 0) (c := 5) rfl rfl rfl (by decide +kernel) rfl ?_ -- 81
    refine hI_il2 (k := 6) rfl e6 rfl ?_ -- 84
    refine hM_iav M (by decide) (K := 0) (R2 := 26) (L := 1) (H := 4096) rfl (by decide) rfl rfl hl0 rfl lq6 (by omega) (by omega) rfl (fun x4 z4 q4 a4 b4 => ?_) -- 86
    refine hI_il2 (k := 4) rfl e4 rfl ?_ -- 87
    refine hM_clt (off := 26) (t := 115) rfl q4 lq4 (by decide) rfl (fun c89 => ?_) (fun c89 => ?_) -- 89
    · refine hM_inc (k := 6) (z := 1) rfl e6 lq6 (by decide) (by omega) (by omega) (by decide +kernel) rfl (fun lv5 x5 q5 e5_6 u5 => ?_) -- 115
      have e5_0 := u5 0 _ (by decide) (Or.inl rfl) e0
      have e5_4 := u5 4 _ (by decide) (Or.inl rfl) e4
      have e5_5 := u5 5 _ (by decide) (Or.inl rfl) e5
      refine hI_go (pc' := 69) (off := (-49)) rfl (by decide) ?_ -- 118
      exact g1 z4 a4 b4 x5 q5 lv5 e5_0 e5_4 e5_5 e5_6 a2 b2 c77 c89
    · refine hI_il2 (k := 5) rfl e5 rfl ?_ -- 92
      refine hM_ic (n := (-1)) rfl (by decide) rfl (fun x6 q6 => ?_) -- 94
      refine hM_ceq (off := 16) (t := 111) rfl lq5 q6 (by decide) rfl (fun c95 => ?_) (fun c95 => ?_) -- 95
      · refine hI_il2 (k := 6) rfl e6 rfl ?_ -- 111
        refine hM_si2 (k := 5) rfl (by decide +kernel) rfl (fun lv7 e7_5 u7 => ?_) -- 113
        have e7_0 := u7 0 _ (by decide) (Or.inl rfl) e0
        have e7_4 := u7 4 _ (by decide) (Or.inl rfl) e4
        have e7_6 := u7 6 _ (by decide) (Or.inl rfl) e6
        refine hM_inc (k := 6) (z := 1) rfl e7_6 lq6 (by decide) (by omega) (by omega) (by decide +kernel) rfl (fun lv8 x8 q8 e8_6 u8 => ?_) -- 115
        have e8_0 := u8 0 _ (by decide) (Or.inl rfl) e7_0
        have e8_4 := u8 4 _ (by decide) (Or.inl rfl) e7_4
        have e8_5 := u8 5 _ (by decide) (Or.inl rfl) e7_5
        refine hI_go (pc' := 69) (off := (-49)) rfl (by decide) ?_ -- 118
        exact g2 z4 a4 b4 x8 q8 lv8 e8_0 e8_4 e8_5 e8_6 a2 b2 c77 c89 c95
      · refine hI_il2 (k := 6) rfl e6 rfl ?_ -- 98
        refine hM_is0 (as := [.int lx6]) (r := []) rfl rfl (by decide +kernel) rfl rfl rfl rfl rfl ?_ -- 100
        exact g3 z4 a4 b4 a2 b2 c77 c89 c95
theorem s_gv103 {n b j y : Int} (M : MX 25 W ρ m A h0 h F V G) (e0 : m_lk lv 0 = some (.ref m)) {lx4 : Int32} (e4 : m_lk lv 4 = some (.int lx4)) (lq4 : lx4.toInt = n) {lx5 : Int32} (e5 : m_lk lv 5 = some (.int lx5)) (lq5 : lx5.toInt = b) {lx6 : Int32} (e6 : m_lk lv 6 = some (.int lx6)) (lq6 : lx6.toInt = j) {sx0 : Int32} (sq0 : sx0.toInt = y) 
    (g0 : HJ 82 0 (lv_args 0 [.int lx5]) [] h (fun v h' => HJ 163 108 lv (v.toList ++ [.int sx0]) h' Q))
    : HJ 163 103 lv [.int sx0] h Q := by
  refine hI_il2 (k := 5) rfl e5 rfl ?_ -- 103
  refine hM_is0 (as := [.int lx5]) (r := [.int sx0]) rfl rfl (by decide +kernel) rfl rfl rfl rfl rfl ?_ -- 105
  exact g0 
theorem s_gv108 {n b j y z : Int} (M : MX 25 W ρ m A h0 h F V G) (e0 : m_lk lv 0 = some (.ref m)) {lx4 : Int32} (e4 : m_lk lv 4 = some (.int lx4)) (lq4 : lx4.toInt = n) {lx5 : Int32} (e5 : m_lk lv 5 = some (.int lx5)) (lq5 : lx5.toInt = b) {lx6 : Int32} (e6 : m_lk lv 6 = some (.int lx6)) (lq6 : lx6.toInt = j) {sx0 : Int32} (sq0 : sx0.toInt = y) {sx1 : Int32} (sq1 : sx1.toInt = z) (j0 : 0 ≤ j) (j1 : j ≤ 4096)
    (g0 : ∀ x1 : Int32, x1.toInt = j + 1 → ∀ lv1 : List (Nat × Value), m_lk lv1 0 = some (.ref m) → m_lk lv1 4 = some (.int lx4) → m_lk lv1 5 = some (.int lx5) → m_lk lv1 6 = some (.int x1) → y ≥ z → HJ 163 69 lv1 [] h Q)
    (g1 : ∀ x3 : Int32, x3.toInt = j + 1 → ∀ lv3 : List (Nat × Value), m_lk lv3 0 = some (.ref m) → m_lk lv3 4 = some (.int lx4) → m_lk lv3 5 = some (.int lx6) → m_lk lv3 6 = some (.int x3) → y < z → HJ 163 69 lv3 [] h Q)
    : HJ 163 108 lv [.int sx1, .int sx0] h Q := by
  refine hM_cge (off := 7) (t := 115) rfl sq0 sq1 (by decide) rfl (fun c108 => ?_) (fun c108 => ?_) -- 108
  · refine hM_inc (k := 6) (z := 1) rfl e6 lq6 (by decide) (by omega) (by omega) (by decide +kernel) rfl (fun lv1 x1 q1 e1_6 u1 => ?_) -- 115
    have e1_0 := u1 0 _ (by decide) (Or.inl rfl) e0
    have e1_4 := u1 4 _ (by decide) (Or.inl rfl) e4
    have e1_5 := u1 5 _ (by decide) (Or.inl rfl) e5
    refine hI_go (pc' := 69) (off := (-49)) rfl (by decide) ?_ -- 118
    exact g0 x1 q1 lv1 e1_0 e1_4 e1_5 e1_6 c108
  · refine hI_il2 (k := 6) rfl e6 rfl ?_ -- 111
    refine hM_si2 (k := 5) rfl (by decide +kernel) rfl (fun lv2 e2_5 u2 => ?_) -- 113
    have e2_0 := u2 0 _ (by decide) (Or.inl rfl) e0
    have e2_4 := u2 4 _ (by decide) (Or.inl rfl) e4
    have e2_6 := u2 6 _ (by decide) (Or.inl rfl) e6
    refine hM_inc (k := 6) (z := 1) rfl e2_6 lq6 (by decide) (by omega) (by omega) (by decide +kernel) rfl (fun lv3 x3 q3 e3_6 u3 => ?_) -- 115
    have e3_0 := u3 0 _ (by decide) (Or.inl rfl) e2_0
    have e3_4 := u3 4 _ (by decide) (Or.inl rfl) e2_4
    have e3_5 := u3 5 _ (by decide) (Or.inl rfl) e2_5
    refine hI_go (pc' := 69) (off := (-49)) rfl (by decide) ?_ -- 118
    exact g1 x3 q3 lv3 e3_0 e3_4 e3_5 e3_6 c108
theorem s_gv121 {b : Int} (M : MX 25 W ρ m A h0 h F V G) (e0 : m_lk lv 0 = some (.ref m)) {lx5 : Int32} (e5 : m_lk lv 5 = some (.int lx5)) (lq5 : lx5.toInt = b) 
    (g0 : b ≠ (-1) → HJ 161 0 (lv_args 0 [.ref m, .int lx5]) [] h (fun v h' => HJ 163 139 lv (v.toList ++ []) h' Q))
    (g1 : b = (-1) → Q (some (.long (-1))) h)
    : HJ 163 121 lv [] h Q := by
  refine hI_il2 (k := 5) rfl e5 rfl ?_ -- 121
  refine hM_ic (n := (-1)) rfl (by decide) rfl (fun x1 q1 => ?_) -- 123
  refine hM_cne (off := 9) (t := 133) rfl lq5 q1 (by decide) rfl (fun c124 => ?_) (fun c124 => ?_) -- 124
  · refine hI_al (k := 0) rfl e0 rfl ?_ -- 133
    refine hI_il2 (k := 5) rfl e5 rfl ?_ -- 134
    refine hM_iv M (by decide) rfl rfl (by decide) (as := [.int lx5]) (r := []) rfl rfl (by decide +kernel) rfl (by decide +kernel) rfl rfl rfl rfl rfl ?_ -- 136
    exact g0 c124
  · refine hM_jc (x := (-1)) rfl rfl rfl ?_ -- 127
    refine hI_go (pc' := 139) (off := 9) rfl (by decide) ?_ -- 130
    refine hI_rl rfl rfl ?_
    exact g1 c124
theorem s_gv139  {sx0 : Int64} 
    (g0 : Q (some (.long sx0)) h)
    : HJ 163 139 lv [.long sx0] h Q := by
  refine hI_rl rfl rfl ?_
  exact g0 
theorem l_ft {T : Int} {xz : Int32} (hw : d_sub [(26, 1001)] W = true) (hl : ((h_k h0 (A 0)).2 : Int) = T) (t1 : T ≤ 4096) (g : ∀ (h : MH) (V : Nat → Nat → Int), MX 25 W ρ m A h0 h F V G → Q none h) : ∀ (d i : Nat) (lv : List (Nat × Value)) (h : MH) (V : Nat → Nat → Int) (xi xn : Int32), i + d = 4096 → MX 25 W ρ m A h0 h F V G → xi.toInt = (i : Int) → xn.toInt = T → m_lk lv 0 = some (.ref (A 0)) → m_lk lv 1 = some (.int xz) → m_lk lv 2 = some (.int xi) → m_lk lv 3 = some (.int xn) → HJ 48 5 lv [] h Q := by
  intro d
  induction d with
  | zero =>
    intro i lv h V xi xn hd M qi qn e0 e1 e2 e3
    exact s_ft5 M e0 e1 rfl e2 qi e3 qn (by omega) (by omega) t1 hl hw (fun _ => g h V M) (fun h1 V1 x2 q2 lv2 M1 _ _ _ _ c => by omega)
  | succ d ih =>
    intro i lv h V xi xn hd M qi qn e0 e1 e2 e3
    exact s_ft5 M e0 e1 rfl e2 qi e3 qn (by omega) (by omega) t1 hl hw (fun _ => g h V M) (fun h1 V1 x2 q2 lv2 M1 d0 d1 d2 d3 _ => ih (i + 1) lv2 h1 V1 x2 xn (by omega) M1 (by omega) qn d0 d1 d2 d3)
theorem c_fillT {xz : Int32} (M : MX 25 W ρ m A h0 h F V G) (hw : d_sub [(26, 1001)] W = true) (g : ∀ (h' : MH) (V' : Nat → Nat → Int), MX 25 W ρ m A h0 h' F V' G → Q none h') : HJ 48 0 (lv_args 0 [.ref (A 0), .int xz]) [] h Q :=
  s_ft0 M rfl rfl rfl (fun x1 q1 x3 z3 q3 a3 b3 c3 lv4 d0 d1 d2 d3 => l_ft hw c3.symm b3 g 4096 0 lv4 h V x1 x3 rfl M q1 q3 d0 d1 d2 d3)
theorem c_ib {x : Int32} (g : ∀ y : Int32, Q (some (.int y)) h) : HJ 82 0 (lv_args 0 [.int x]) [] h Q := s_ib (y := x.toInt) rfl rfl (by intros; exact g _)
theorem l_pk {p : Int64} (M : MX 25 W ρ m A h0 h F V G) (g : ∀ x : Int32, 0 ≤ x.toInt → x.toInt < (2 : Int) ^ (F 3).toNat → Q (some (.int x)) h) : ∀ (d i : Nat) (lv : List (Nat × Value)) (xb xi : Int32), i + d = (F 3).toNat → xi.toInt = (i : Int) → 0 ≤ xb.toInt → xb.toInt < (2 : Int) ^ i → m_lk lv 0 = some (.ref m) → m_lk lv 1 = some (.long p) → m_lk lv 3 = some (.int xb) → m_lk lv 4 = some (.int xi) → HJ 159 5 lv [] h Q := by
  have b := M.fi (by decide) (k := 3) (lo := 0) (hi := 12) rfl rfl rfl
  intro d
  induction d with
  | zero =>
    intro i lv xb xi hd qi b0 b1 e0 e1 e3 e4
    have hd : i = (F 3).toNat := hd
    exact s_pk5 M e0 e1 e3 rfl e4 qi (by omega) (by omega) (fun _ _ _ => g xb b0 (by rw [← hd]; exact b1)) (fun x3 q3 x4 q4 x5 q5 x7 q7 lv7 _ _ _ _ a1 b1 c _ _ => by omega)
  | succ d ih =>
    intro i lv xb xi hd qi b0 b1 e0 e1 e3 e4
    exact s_pk5 M e0 e1 e3 rfl e4 qi (by omega) (by omega) (fun _ _ c => by omega) (fun x3 q3 x4 q4 x5 q5 x7 q7 lv7 d0 d1 d3 d4 _ _ c _ _ => by
      have k := pk_b qi (by omega) b0 b1 q3 q4
      exact ih (i + 1) lv7 x5 x7 (by omega) (by omega) (by rw [q5]; exact k.1) (by rw [q5]; exact k.2) d0 d1 d3 d4)
theorem c_packed {p : Int64} (M : MX 25 W ρ m A h0 h F V G) (g : ∀ x : Int32, 0 ≤ x.toInt → x.toInt < (2 : Int) ^ (F 3).toNat → Q (some (.int x)) h) : HJ 159 0 (lv_args 0 [.ref m, .long p]) [] h Q :=
  s_pk0 M rfl rfl (fun x1 q1 x3 q3 lv4 d0 d1 d3 d4 => l_pk M g (F 3).toNat 0 lv4 x1 x3 (by omega) q3 (by omega) (by rw [q1]; decide) d0 d1 d3 d4)
theorem l_up {xb : Int32} (M : MX 25 W ρ m A h0 h F V G) (g : ∀ y : Int64, Q (some (.long y)) h) : ∀ (d i : Nat) (lv : List (Nat × Value)) (y : Int64) (xi : Int32), i + d = 12 → xi.toInt = (i : Int) → m_lk lv 0 = some (.ref m) → m_lk lv 1 = some (.int xb) → m_lk lv 2 = some (.long y) → m_lk lv 4 = some (.int xi) → HJ 161 5 lv [] h Q := by
  have b := M.fi (by decide) (k := 3) (lo := 0) (hi := 12) rfl rfl rfl
  intro d
  induction d with
  | zero =>
    intro i lv y xi hd qi e0 e1 e2 e4
    exact s_up5 M e0 e1 rfl e2 e4 qi (by omega) (by omega) (fun _ _ _ => g _) (by intros; omega) (by intros; omega)
  | succ d ih =>
    intro i lv y xi hd qi e0 e1 e2 e4
    exact s_up5 M e0 e1 rfl e2 e4 qi (by omega) (by omega) (fun _ _ _ => g _) (fun z2 _ _ z4 _ _ x5 q5 lv5 d0 d1 d2 d4 _ _ _ _ => ih (i + 1) lv5 _ x5 (by omega) (by omega) d0 d1 d2 d4) (fun z2 _ _ z4 _ _ x6 q6 _ _ _ _ _ _ => c_bit (fun w => s_up34 M e0 e1 rfl e4 qi (by omega) (by omega) (fun x2 q2 lv2 d0 d1 d2 d4 => ih (i + 1) lv2 _ x2 (by omega) (by omega) d0 d1 d2 d4)))
theorem c_unp {xb : Int32} (M : MX 25 W ρ m A h0 h F V G) (g : ∀ y : Int64, Q (some (.long y)) h) : HJ 161 0 (lv_args 0 [.ref m, .int xb]) [] h Q :=
  s_up0 M rfl rfl rfl (fun x2 q2 lv3 d0 d1 d2 d4 => l_up M g 12 0 lv3 _ x2 rfl q2 d0 d1 d2 d4)
theorem l_sb12 {T : Int} {i : Nat} {xi : Int32} (hw : d_sub [(26, 1001)] W = true) (hl : ((h_k h0 (A 0)).2 : Int) = T) (tl : (2 : Int) ^ (F 3).toNat ≤ T) (t1 : T ≤ 4096) (qi : xi.toInt = (i : Int)) (i1 : (i : Int) < F 3) (f12 : F 3 ≤ 12) (g : ∀ (lv : List (Nat × Value)) (h : MH) (V : Nat → Nat → Int) (x : Int32), MX 25 W ρ m A h0 h F V G → x.toInt = (i : Int) + 1 → m_lk lv 0 = some (.ref m) → m_lk lv 1 = some (.int x) → HJ 160 2 lv [] h Q) : ∀ (d j : Nat) (lv : List (Nat × Value)) (h : MH) (V : Nat → Nat → Int) (xj : Int32), j + d = 4096 → MX 25 W ρ m A h0 h F V G → xj.toInt = (j : Int) → m_lk lv 0 = some (.ref m) → m_lk lv 1 = some (.int xi) → m_lk lv 2 = some (.int xj) → HJ 160 12 lv [] h Q := by
  intro d
  induction d with
  | zero =>
    intro j lv h V xj hd M qj e0 e1 e2
    exact s_sb12 M e0 e1 qi e2 qj (by omega) i1 (by omega) (by omega) f12 tl hl hw (fun x4 q4 lv4 d0 d1 _ _ _ _ => g lv4 h V x4 M q4 d0 d1) (by intros; omega) (by intros; omega)
  | succ d ih =>
    intro j lv h V xj hd M qj e0 e1 e2
    exact s_sb12 M e0 e1 qi e2 qj (by omega) i1 (by omega) (by omega) f12 tl hl hw (fun x4 q4 lv4 d0 d1 _ _ _ _ => g lv4 h V x4 M q4 d0 d1) (fun z5 _ _ z7 _ _ x8 q8 lv8 d0 d1 d2 _ _ _ _ => ih (j + 1) lv8 h V x8 (by omega) M (by omega) d0 d1 d2) (fun z5 _ _ z7 _ _ z9 _ _ z13 _ _ z14 _ _ h15 V15 x16 q16 lv16 M15 d0 d1 d2 _ _ _ _ => ih (j + 1) lv16 h15 V15 x16 (by omega) M15 (by omega) d0 d1 d2)
theorem l_sb2 {T : Int} (hw : d_sub [(26, 1001)] W = true) (hl : ((h_k h0 (A 0)).2 : Int) = T) (tl : (2 : Int) ^ (F 3).toNat ≤ T) (t1 : T ≤ 4096) (g : ∀ (h : MH) (V : Nat → Nat → Int), MX 25 W ρ m A h0 h F V G → Q none h) : ∀ (d i : Nat) (lv : List (Nat × Value)) (h : MH) (V : Nat → Nat → Int) (xi : Int32), i + d = 12 → MX 25 W ρ m A h0 h F V G → xi.toInt = (i : Int) → m_lk lv 0 = some (.ref m) → m_lk lv 1 = some (.int xi) → HJ 160 2 lv [] h Q := by
  intro d
  induction d with
  | zero =>
    intro i lv h V xi hd M qi e0 e1
    exact s_sb2 M e0 e1 qi (fun _ _ _ => g h V M) (by intros; omega)
  | succ d ih =>
    intro i lv h V xi hd M qi e0 e1
    exact s_sb2 M e0 e1 qi (fun _ _ _ => g h V M) (fun x2 q2 lv3 d0 d1 d2 _ b c => l_sb12 hw hl tl t1 qi c b (fun lv4 h4 V4 x4 M4 q4 f0 f1 => ih (i + 1) lv4 h4 V4 x4 (by omega) M4 (by omega) f0 f1) 4096 0 lv3 h V x2 rfl M q2 d0 d1 d2)
theorem c_sumB {T : Int} (M : MX 25 W ρ m A h0 h F V G) (hw : d_sub [(26, 1001)] W = true) (hl : ((h_k h0 (A 0)).2 : Int) = T) (tl : (2 : Int) ^ (F 3).toNat ≤ T) (t1 : T ≤ 4096) (g : ∀ (h : MH) (V : Nat → Nat → Int), MX 25 W ρ m A h0 h F V G → Q none h) : HJ 160 0 (lv_args 0 [.ref m]) [] h Q :=
  s_sb0 M rfl (fun x1 q1 lv2 d0 d1 => l_sb2 hw hl tl t1 g 12 0 lv2 h V x1 rfl M q1 d0 d1)
end
end
