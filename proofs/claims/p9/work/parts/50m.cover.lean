-- COVER AND FORGET: bits of versions
theorem lg_0 {x y : Int64} : (lg_cmp x y).toInt = 0 ↔ x = y := by
  unfold lg_cmp
  by_cases h1 : x > y
  · rw [if_pos h1]
    constructor
    · intro z
      exact absurd z (by decide)
    · intro z
      rw [z] at h1
      exact absurd h1 (Int64.lt_irrefl)
  · rw [if_neg h1]
    by_cases h2 : x = y
    · rw [if_pos h2]
      exact ⟨fun _ => h2, fun _ => by decide⟩
    · rw [if_neg h2]
      constructor
      · intro z
        exact absurd z (by decide)
      · intro z
        exact absurd z h2
def z_bit (v : Nat) : Int64 := (Int64.ofNat (1 : Fin 2).val) <<< ((Int32.ofInt (v : Int)).toInt64 &&& 63)
theorem z_bitF : ∀ v : Fin 41, (z_bit v.val).toBitVec = (1#64 <<< v.val) := by decide +kernel
theorem z_shF : ∀ v : Fin 41, ((Int32.ofInt (v.val : Int)).toInt64 &&& 63).toBitVec.smod (BitVec.ofNat 64 64) = BitVec.ofNat 64 v.val := by decide +kernel
theorem z_none {x : Int64} {v : Nat} (hv : v ≤ 40) (h : ¬ (x >>> ((Int32.ofInt (v : Int)).toInt64 &&& 63)) &&& (Int64.ofNat (1 : Fin 2).val) = Int64.ofNat (1 : Fin 2).val) : z_bit v &&& x = 0 := by
  have e1 := z_bitF ⟨v, by omega⟩
  have e2 := z_shF ⟨v, by omega⟩
  dsimp only at e1 e2
  have e3 : (x >>> ((Int32.ofInt (v : Int)).toInt64 &&& 63)).toBitVec = x.toBitVec.sshiftRight v := by
    rw [Int64.toBitVec_shiftRight]
    show x.toBitVec.sshiftRight' (((Int32.ofInt (v : Int)).toInt64 &&& 63).toBitVec.smod (BitVec.ofNat 64 64)) = _
    rw [e2]
    show x.toBitVec.sshiftRight (BitVec.ofNat 64 v).toNat = _
    rw [BitVec.toNat_ofNat, Nat.mod_eq_of_lt (by omega)]
  by_cases hb : x.toBitVec.getLsbD v = true
  · refine absurd ?_ h
    apply Int64.toBitVec_inj.1
    rw [Int64.toBitVec_and, e3]
    show x.toBitVec.sshiftRight v &&& 1#64 = 1#64
    apply BitVec.eq_of_getLsbD_eq
    intro i hi
    rw [BitVec.getLsbD_and, BitVec.getLsbD_one]
    by_cases e : i = 0
    · subst e
      rw [BitVec.getLsbD_sshiftRight]
      simp [hb, show v < 64 by omega]
    · simp [e]
  · apply Int64.toBitVec_inj.1
    rw [Int64.toBitVec_and, e1]
    show (1#64 <<< v) &&& x.toBitVec = 0#64
    apply BitVec.eq_of_getLsbD_eq
    intro i hi
    rw [BitVec.getLsbD_and, BitVec.getLsbD_shiftLeft, BitVec.getLsbD_one, BitVec.getLsbD_zero]
    by_cases e : i = v
    · subst e
      simp at hb
      simp [hb]
    · by_cases e2 : i < v
      · simp [e2]
      · simp [show i - v ≠ 0 by omega]
theorem z_or {a b x : Int64} (h : b &&& x = 0) : (a ||| b) &&& x = a &&& x := by
  have h2 : b.toBitVec &&& x.toBitVec = 0#64 := by
    have := congrArg Int64.toBitVec h
    rw [Int64.toBitVec_and] at this
    exact this
  apply Int64.toBitVec_inj.1
  rw [Int64.toBitVec_and, Int64.toBitVec_and, Int64.toBitVec_or]
  apply BitVec.eq_of_getLsbD_eq
  intro i hi
  have h3 := congrArg (fun z => z.getLsbD i) h2
  rw [BitVec.getLsbD_and, BitVec.getLsbD_zero] at h3
  rw [BitVec.getLsbD_and, BitVec.getLsbD_and, BitVec.getLsbD_or]
  revert h3
  cases a.toBitVec.getLsbD i <;> cases b.toBitVec.getLsbD i <;> cases x.toBitVec.getLsbD i <;> simp
theorem z_not {a x : Int64} (h1 : a ≠ 0) (h2 : a &&& (x ^^^ (-1)) = 0) : ¬ a &&& x = 0 := fun h => h1 (by
  have g2 : a.toBitVec &&& (x.toBitVec ^^^ (-1 : Int64).toBitVec) = 0#64 := by
    have := congrArg Int64.toBitVec h2
    rw [Int64.toBitVec_and, Int64.toBitVec_xor] at this
    exact this
  have g : a.toBitVec &&& x.toBitVec = 0#64 := by
    have := congrArg Int64.toBitVec h
    rw [Int64.toBitVec_and] at this
    exact this
  have o : (-1 : Int64).toBitVec = BitVec.allOnes 64 := by decide +kernel
  rw [o] at g2
  apply Int64.toBitVec_inj.1
  show a.toBitVec = 0#64
  apply BitVec.eq_of_getLsbD_eq
  intro i hi
  have h3 := congrArg (fun z => z.getLsbD i) g2
  have h4 := congrArg (fun z => z.getLsbD i) g
  rw [BitVec.getLsbD_and, BitVec.getLsbD_xor, BitVec.getLsbD_allOnes, BitVec.getLsbD_zero] at h3
  rw [BitVec.getLsbD_and, BitVec.getLsbD_zero] at h4
  rw [BitVec.getLsbD_zero]
  rw [decide_eq_true hi] at h3
  revert h3 h4
  cases a.toBitVec.getLsbD i <;> cases x.toBitVec.getLsbD i <;> simp)
-- how many of a set; how many nodes some of a set hold
def z_cb (x : Int64) : Nat → Nat
  | 0 => 0
  | v + 1 => z_cb x v + (if z_bit v &&& x = 0 then 0 else 1)
def z_hc (H : Nat → Int64) (x : Int64) : Nat → Nat
  | 0 => 0
  | n + 1 => z_hc H x n + (if H n &&& x = 0 then 0 else 1)
theorem z_hcC {H H' : Nat → Int64} {x : Int64} : ∀ {n : Nat}, (∀ i, i < n → H' i = H i) → z_hc H' x n = z_hc H x n
  | 0, _ => rfl
  | n + 1, h => by rw [z_hc, z_hc, z_hcC (n := n) (fun i hi => h i (by omega)), h n (by omega)]
theorem z_hcM {H : Nat → Int64} {x : Int64} {k : Nat} : ∀ {n : Nat}, k ≤ n → z_hc H x k ≤ z_hc H x n
  | 0, h => by rw [show k = 0 by omega]; exact Nat.le_refl _
  | n + 1, h => by
    by_cases e : k = n + 1
    · rw [e]; exact Nat.le_refl _
    · have := z_hcM (H := H) (x := x) (k := k) (n := n) (by omega)
      rw [z_hc]
      omega
theorem z_hcU {H : Nat → Int64} {x b : Int64} {a : Nat} : ∀ n : Nat, z_hc (m_u H a (H a ||| b)) x n ≤ z_hc H x n + (if b &&& x = 0 then 0 else 1)
  | 0 => by
    rw [z_hc]
    omega
  | n + 1 => by
    by_cases e : n = a
    · subst e
      rw [z_hc, z_hc, z_hcC (H := H) (fun i hi => m_uN _ _ _ _ (by omega)), m_uE]
      by_cases hb : b &&& x = 0
      · rw [z_or hb, if_pos hb]
        omega
      · rw [if_neg hb]
        split <;> split <;> omega
    · have := z_hcU (H := H) (x := x) (b := b) (a := a) n
      rw [z_hc, z_hc, m_uN _ _ _ _ e]
      omega
theorem z_hc0 {H : Nat → Int64} {x : Int64} : ∀ {n : Nat}, (∀ i, i < n → H i = 0) → z_hc H x n = 0
  | 0, _ => rfl
  | n + 1, h => by rw [z_hc, z_hc0 (n := n) (fun i hi => h i (by omega)), h n (by omega), if_pos Int64.zero_and]
section
variable {lv : List (Nat × Value)} {Q : Option Value → MH → Prop} {W : List (Nat × Nat)} {ρ : Nat → Nat} {m : Nat} {A : Nat → Nat} {h0 h : MH} {F : Nat → Int} {V : Nat → Nat → Int} {G : Nat → Nat → Int64}
-- has, and what it says where it says no
theorem c_has2 {x : Int64} {v : Nat} {xk : Int32} (M : MX 49 W ρ m A h0 h F V G) (hk : xk.toInt = (v : Int)) (hv : v ≤ 40) (g : ∀ z : Int32, 0 ≤ z.toInt → z.toInt ≤ 1 → (z.toInt = 0 → z_bit v &&& x = 0) → Q (some (.int z)) h) : HJ 232 0 (lv_args 0 [.long x, .int xk]) [] h Q := by
  have ex : xk = Int32.ofInt (v : Int) := by rw [← hk, Int32.ofInt_toInt]
  refine s_has M rfl rfl hk (fun z q c => g z (by omega) (by omega) (fun _ => z_none hv (fun e => c ?_))) (fun z q _ => g z (by omega) (by omega) (fun y => by omega))
  rw [ex]
  exact lg_0.mpr e
theorem l_list2 {x : Int64} {F0 : Nat → Int} {V0 : Nat → Nat → Int} (hw : d_sub g_lsW W = true) (s41 : F0 35 ≤ 41) (s0 : 0 ≤ F0 35) (g : ∀ (z : Int32) (h' : MH) (F' : Nat → Int) (V' : Nat → Nat → Int), 0 ≤ z.toInt → z.toInt ≤ 1 → MX 49 W ρ m A h0 h' F' V' G → (∀ K, K ≠ 47 → F' K = F0 K) → (∀ K, K ≠ 48 → V' K = V0 K) → (z.toInt = 1 → z_cb x (F0 35).toNat ≤ 12) → Q (some (.int z)) h') : ∀ (d v : Nat) (lv : List (Nat × Value)) (h : MH) (F : Nat → Int) (V : Nat → Nat → Int) (xv : Int32), v + d = (F0 35).toNat → MX 49 W ρ m A h0 h F V G → (∀ K, K ≠ 47 → F K = F0 K) → (∀ K, K ≠ 48 → V K = V0 K) → (z_cb x v : Int) ≤ F 47 → xv.toInt = (v : Int) → m_lk lv 0 = some (.ref m) → m_lk lv 1 = some (.long x) → m_lk lv 3 = some (.int xv) → HJ 249 7 lv [] h Q := by
  intro d
  induction d with
  | zero =>
    intro v lv h F V xv hd M fo vo I hv e0 e1 e3
    have f35 := fo 35 (by decide)
    have b := M.fi (by decide) (k := 47) (lo := 0) (hi := 12) rfl rfl rfl
    have ve : v = (F0 35).toNat := by omega
    exact s_ls7 M e0 e1 e3 hv (fun z q _ _ _ => g z h F V (by omega) (by omega) M fo vo (fun _ => by rw [← ve]; omega)) (fun _ _ c => by omega)
  | succ d ih =>
    intro v lv h F V xv hd M fo vo I hv e0 e1 e3
    have f35 := fo 35 (by decide)
    refine s_ls7 M e0 e1 e3 hv (fun z q _ _ _ => by omega) (fun _ _ c => ?_)
    refine c_has2 M hv (by omega) (fun z z0 z1 zn => ?_)
    refine s_ls20 (z := z.toInt) M e0 e1 e3 hv rfl (by omega) (by omega) (d_subm hw (by decide +kernel)) (fun x1 q1 lv1 d0 d1 d3 c20 => ih (v + 1) lv1 h F V x1 (by omega) M fo vo ?_ (by omega) d0 d1 d3) (fun h5 V5 f5 h9 F9 f9 x10 q10 lv10 M9 d0 d1 d3 _ a2 _ _ => ?_) (fun x11 q11 _ _ _ _ => g x11 h F V (by omega) (by omega) M fo vo (fun y => by omega))
    · rw [z_cb, if_pos (zn c20)]
      exact I
    · refine ih (v + 1) lv10 h9 F9 V5 x10 (by omega) M9 (fun K hK => by rw [f9, m_uN _ _ _ _ hK, fo K hK]) (fun K hK => by rw [f5, m_uN _ _ _ _ hK, vo K hK]) ?_ (by omega) d0 d1 d3
      rw [f9, m_uE, z_cb]
      split <;> omega
theorem c_list2 {x : Int64} (M : MX 49 W ρ m A h0 h F V G) (hw : d_sub g_lsW W = true) (s0 : 0 ≤ F 35) (s41 : F 35 ≤ 41) (g : ∀ (z : Int32) (h' : MH) (F' : Nat → Int) (V' : Nat → Nat → Int), 0 ≤ z.toInt → z.toInt ≤ 1 → MX 49 W ρ m A h0 h' F' V' G → (∀ K, K ≠ 47 → F' K = F K) → (∀ K, K ≠ 48 → V' K = V K) → (z.toInt = 1 → z_cb x (F 35).toNat ≤ 12) → Q (some (.int z)) h') : HJ 249 0 (lv_args 0 [.ref m, .long x]) [] h Q := by
  have w1 : d_sub [(49, 47)] W = true := d_subm hw (by decide +kernel)
  refine s_ls0 M rfl rfl w1 (fun h2 F2 f2 x3 q3 lv4 M2 e0 e1 e3 => ?_)
  exact l_list2 (F0 := F) (V0 := V) hw s41 s0 g (F 35).toNat 0 lv4 h2 F2 V x3 (by omega) M2 (fun K hK => by rw [f2, m_uN _ _ _ _ hK]) (fun _ _ => rfl) (by rw [f2, m_uE]; exact Int.le_refl _) q3 e0 e1 e3
-- who holds what
theorem s_ho0 (M : MX 49 W ρ m A h0 h F V G) (e0 : m_lk lv 0 = some (.ref m)) 
    (g0 : ∀ x1 : Int32, x1.toInt = 0 → ∀ lv2 : List (Nat × Value), m_lk lv2 0 = some (.ref m) → m_lk lv2 1 = some (.int x1) → HJ 229 2 lv2 [] h Q)
    : HJ 229 0 lv [] h Q := by
  refine hM_ic (n := 0) rfl (by decide) rfl (fun x1 q1 => ?_) -- 0
  refine hM_si (k := 1) rfl (by decide +kernel) rfl (fun lv2 e2_1 u2 => ?_) -- 1
  have e2_0 := u2 0 _ (by decide) (Or.inl rfl) e0
  exact g0 x1 q1 lv2 e2_0 e2_1
theorem s_ho2 {k : Int} (M : MX 49 W ρ m A h0 h F V G) (e0 : m_lk lv 0 = some (.ref m)) {lx1 : Int32} (e1 : m_lk lv 1 = some (.int lx1)) (lq1 : lx1.toInt = k) (k0 : 0 ≤ k) (n1 : F 17 ≤ 16000)(hw : d_sub [(77, 1001)] W = true)
    (g0 : ∀ x2 : Int32, x2.toInt = 0 → ∀ lv3 : List (Nat × Value), m_lk lv3 0 = some (.ref m) → m_lk lv3 1 = some (.int x2) → 0 ≤ F 17 → F 17 ≤ 16000 → k ≥ F 17 → HJ 229 25 lv3 [] h Q)
    (g1 : ∀ h4 : MH, ∀ G4 : Nat → Nat → Int64, G4 = m_u G 42 (m_u (G 42) (k).toNat (Int64.ofNat (0 : Fin 2).val)) → ∀ x5 : Int32, x5.toInt = k + 1 → ∀ lv5 : List (Nat × Value), MX 49 W ρ m A h0 h4 F V G4 → m_lk lv5 0 = some (.ref m) → m_lk lv5 1 = some (.int x5) → 0 ≤ F 17 → F 17 ≤ 16000 → k < F 17 → HJ 229 2 lv5 [] h4 Q)
    : HJ 229 2 lv [] h Q := by
  refine hI_il (k := 1) rfl e1 rfl ?_ -- 2
  refine hI_al (k := 0) rfl e0 rfl ?_ -- 3
  refine hM_gi M (by decide) rfl rfl rfl (k := 17) (c := 9) (lo := 0) (hi := 16000) rfl rfl rfl rfl rfl (fun x1 q1 a1 b1 => ?_) -- 4
  refine hM_cge (off := 16) (t := 23) rfl lq1 q1 (by decide) rfl (fun c7 => ?_) (fun c7 => ?_) -- 7
  · refine hM_ic (n := 0) rfl (by decide) rfl (fun x2 q2 => ?_) -- 23
    refine hM_si (k := 1) rfl (by decide +kernel) rfl (fun lv3 e3_1 u3 => ?_) -- 24
    have e3_0 := u3 0 _ (by decide) (Or.inl rfl) e0
    exact g0 x2 q2 lv3 e3_0 e3_1 a1 b1 c7
  · refine hI_al (k := 0) rfl e0 rfl ?_ -- 10
    refine hM_ga M (by decide) rfl rfl (k := 42) (c := 9) rfl rfl rfl (by decide +kernel) rfl ?_ -- 11
    refine hI_il (k := 1) rfl e1 rfl ?_ -- 14
    refine hI_lc (n := 0) rfl rfl ?_ -- 15
    refine hM_ls M (by decide) ok_49 (K := 42) (R2 := 77) (L := 16000) (H := 16000) rfl (by decide) rfl rfl rfl (d_subm hw (by decide +kernel)) rfl lq1 (by omega) (by omega) rfl (fun h4 G4 f4 M4 => ?_) -- 16
    refine hM_inc (k := 1) (z := 1) rfl e1 lq1 (by decide) (by omega) (by omega) (by decide +kernel) rfl (fun lv5 x5 q5 e5_1 u5 => ?_) -- 17
    have e5_0 := u5 0 _ (by decide) (Or.inl rfl) e0
    refine hI_go (pc' := 2) (off := (-18)) rfl (by decide) ?_ -- 20
    exact g1 h4 G4 f4 x5 q5 lv5 M4 e5_0 e5_1 a1 b1 c7
theorem s_ho25 {v : Int} (M : MX 49 W ρ m A h0 h F V G) (e0 : m_lk lv 0 = some (.ref m)) {lx1 : Int32} (e1 : m_lk lv 1 = some (.int lx1)) (lq1 : lx1.toInt = v) 
    (g0 : 0 ≤ F 35 → F 35 ≤ 41 → v ≥ F 35 → Q none h)
    (g1 : 0 ≤ F 35 → F 35 ≤ 41 → v < F 35 → HJ 208 0 (lv_args 0 [.ref m, .int lx1]) [] h (fun v h' => HJ 229 38 lv (v.toList ++ []) h' Q))
    : HJ 229 25 lv [] h Q := by
  refine hI_il (k := 1) rfl e1 rfl ?_ -- 25
  refine hI_al (k := 0) rfl e0 rfl ?_ -- 26
  refine hM_gi M (by decide) rfl rfl rfl (k := 35) (c := 9) (lo := 0) (hi := 41) rfl rfl rfl rfl rfl (fun x1 q1 a1 b1 => ?_) -- 27
  refine hM_cge (off := 51) (t := 81) rfl lq1 q1 (by decide) rfl (fun c30 => ?_) (fun c30 => ?_) -- 30
  · refine hI_rv rfl rfl ?_
    exact g0 a1 b1 c30
  · refine hI_al (k := 0) rfl e0 rfl ?_ -- 33
    refine hI_il (k := 1) rfl e1 rfl ?_ -- 34
    refine hM_iv M (by decide) rfl rfl (by decide) (as := [.int lx1]) (r := []) rfl rfl (by decide +kernel) rfl (by decide +kernel) rfl rfl rfl rfl rfl ?_ -- 35
    exact g1 a1 b1 c30
theorem s_ho38 {v : Int} (M : MX 49 W ρ m A h0 h F V G) (e0 : m_lk lv 0 = some (.ref m)) {lx1 : Int32} (e1 : m_lk lv 1 = some (.int lx1)) (lq1 : lx1.toInt = v) 
    (g0 : HJ 219 0 (lv_args 0 [.ref m]) [] h (fun v h' => HJ 229 42 lv (v.toList ++ []) h' Q))
    : HJ 229 38 lv [] h Q := by
  refine hI_al (k := 0) rfl e0 rfl ?_ -- 38
  refine hM_iv M (by decide) rfl rfl (by decide) (as := []) (r := []) rfl rfl (by decide +kernel) rfl (by decide +kernel) rfl rfl rfl rfl rfl ?_ -- 39
  exact g0 
theorem s_ho42 {v : Int} (M : MX 49 W ρ m A h0 h F V G) (e0 : m_lk lv 0 = some (.ref m)) {lx1 : Int32} (e1 : m_lk lv 1 = some (.int lx1)) (lq1 : lx1.toInt = v) 
    (g0 : ∀ x1 : Int32, x1.toInt = 0 → ∀ lv2 : List (Nat × Value), m_lk lv2 0 = some (.ref m) → m_lk lv2 1 = some (.int lx1) → m_lk lv2 2 = some (.int x1) → HJ 229 44 lv2 [] h Q)
    : HJ 229 42 lv [] h Q := by
  refine hM_ic (n := 0) rfl (by decide) rfl (fun x1 q1 => ?_) -- 42
  refine hM_si (k := 2) rfl (by decide +kernel) rfl (fun lv2 e2_2 u2 => ?_) -- 43
  have e2_0 := u2 0 _ (by decide) (Or.inl rfl) e0
  have e2_1 := u2 1 _ (by decide) (Or.inl rfl) e1
  exact g0 x1 q1 lv2 e2_0 e2_1 e2_2
theorem s_ho44 {v i : Int} (M : MX 49 W ρ m A h0 h F V G) (e0 : m_lk lv 0 = some (.ref m)) {lx1 : Int32} (e1 : m_lk lv 1 = some (.int lx1)) (lq1 : lx1.toInt = v) {lx2 : Int32} (e2 : m_lk lv 2 = some (.int lx2)) (lq2 : lx2.toInt = i) (i0 : 0 ≤ i) (v0 : 0 ≤ v) (v1 : v ≤ 40) (w1 : F 26 ≤ 63)(hw : d_sub [(77, 1001)] W = true)
    (g0 : ∀ x2 : Int32, x2.toInt = v + 1 → ∀ lv2 : List (Nat × Value), m_lk lv2 0 = some (.ref m) → m_lk lv2 1 = some (.int x2) → m_lk lv2 2 = some (.int lx2) → 0 ≤ F 26 → F 26 ≤ 63 → i ≥ F 26 → HJ 229 25 lv2 [] h Q)
    (g1 : ∀ h5 : MH, ∀ G5 : Nat → Nat → Int64, G5 = m_u G 42 (m_u (G 42) (V 27 (i).toNat).toNat ((G 42 (V 27 (i).toNat).toNat) ||| ((Int64.ofNat (1 : Fin 2).val) <<< ((Int32.ofInt (v)).toInt64 &&& 63)))) → ∀ x6 : Int32, x6.toInt = i + 1 → ∀ lv6 : List (Nat × Value), MX 49 W ρ m A h0 h5 F V G5 → m_lk lv6 0 = some (.ref m) → m_lk lv6 1 = some (.int lx1) → m_lk lv6 2 = some (.int x6) → 0 ≤ F 26 → F 26 ≤ 63 → i < F 26 → 0 ≤ V 27 (i).toNat → V 27 (i).toNat ≤ 15999 → HJ 229 44 lv6 [] h5 Q)
    : HJ 229 44 lv [] h Q := by
  refine hI_il (k := 2) rfl e2 rfl ?_ -- 44
  refine hI_al (k := 0) rfl e0 rfl ?_ -- 45
  refine hM_gi M (by decide) rfl rfl rfl (k := 26) (c := 9) (lo := 0) (hi := 63) rfl rfl rfl rfl rfl (fun x1 q1 a1 b1 => ?_) -- 46
  refine hM_cge (off := 26) (t := 75) rfl lq2 q1 (by decide) rfl (fun c49 => ?_) (fun c49 => ?_) -- 49
  · refine hM_inc (k := 1) (z := 1) rfl e1 lq1 (by decide) (by omega) (by omega) (by decide +kernel) rfl (fun lv2 x2 q2 e2_1 u2 => ?_) -- 75
    have e2_0 := u2 0 _ (by decide) (Or.inl rfl) e0
    have e2_2 := u2 2 _ (by decide) (Or.inl rfl) e2
    refine hI_go (pc' := 25) (off := (-53)) rfl (by decide) ?_ -- 78
    exact g0 x2 q2 lv2 e2_0 e2_1 e2_2 a1 b1 c49
  · refine hI_al (k := 0) rfl e0 rfl ?_ -- 52
    refine hM_ga M (by decide) rfl rfl (k := 42) (c := 9) rfl rfl rfl (by decide +kernel) rfl ?_ -- 53
    refine hI_al (k := 0) rfl e0 rfl ?_ -- 56
    refine hM_ga M (by decide) rfl rfl (k := 27) (c := 9) rfl rfl rfl (by decide +kernel) rfl ?_ -- 57
    refine hI_il (k := 2) rfl e2 rfl ?_ -- 60
    refine hM_ia M (by decide) (K := 27) (R2 := 63) (L := 64) (H := 64) (lo := 0) (hi := 15999) rfl (by decide) rfl rfl (fun _ => rfl) rfl lq2 (by omega) (by omega) rfl (fun x3 q3 a3 b3 => ?_) -- 61
    refine hI_dup2 rfl rfl rfl rfl ?_ -- 62
    refine hM_la M (by decide) (K := 42) (R2 := 77) (L := 16000) (H := 16000) rfl (by decide) rfl rfl rfl q3 (by omega) (by omega) rfl ?_ -- 63
    refine hI_lc (n := 1) rfl rfl ?_ -- 64
    refine hI_il (k := 1) rfl e1 rfl ?_ -- 65
    refine hM_lshl rfl lq1 rfl ?_ -- 66
    refine hI_lor rfl rfl ?_ -- 67
    refine hM_ls M (by decide) ok_49 (K := 42) (R2 := 77) (L := 16000) (H := 16000) rfl (by decide) rfl rfl rfl (d_subm hw (by decide +kernel)) rfl q3 (by omega) (by omega) rfl (fun h5 G5 f5 M5 => ?_) -- 68
    refine hM_inc (k := 2) (z := 1) rfl e2 lq2 (by decide) (by omega) (by omega) (by decide +kernel) rfl (fun lv6 x6 q6 e6_2 u6 => ?_) -- 69
    have e6_0 := u6 0 _ (by decide) (Or.inl rfl) e0
    have e6_1 := u6 1 _ (by decide) (Or.inl rfl) e1
    refine hI_go (pc' := 44) (off := (-28)) rfl (by decide) ?_ -- 72
    exact g1 h5 G5 f5 x6 q6 lv6 M5 e6_0 e6_1 e6_2 a1 b1 c49 a3 b3
def g_hd : List (Nat × Nat) := g_wk ++ [(61, 1001), (77, 1001)]
def z_hI (F0 : Nat → Int) (V0 : Nat → Nat → Int) (F : Nat → Int) (V : Nat → Nat → Int) : Prop := (∀ K, K ≠ 26 → F K = F0 K) ∧ ∀ K, K < 24 ∨ 31 < K → V K = V0 K
theorem l_ho44 {v n w : Nat} {xv : Int32} (hw : d_sub [(77, 1001)] W = true) (v40 : v ≤ 40) (fw : F 26 = (w : Int)) (w63 : w ≤ 63) (hv : xv.toInt = (v : Int)) (g : ∀ (lv : List (Nat × Value)) (h : MH) (G : Nat → Nat → Int64) (xv' : Int32), MX 49 W ρ m A h0 h F V G → (∀ x, z_hc (G 42) x n ≤ 63 * z_cb x (v + 1)) → xv'.toInt = (v : Int) + 1 → m_lk lv 0 = some (.ref m) → m_lk lv 1 = some (.int xv') → HJ 229 25 lv [] h Q) : ∀ (d i : Nat) (lv : List (Nat × Value)) (h : MH) (G : Nat → Nat → Int64) (xi : Int32), i + d = w → MX 49 W ρ m A h0 h F V G → (∀ x, z_hc (G 42) x n ≤ 63 * z_cb x v + (if z_bit v &&& x = 0 then 0 else i)) → xi.toInt = (i : Int) → m_lk lv 0 = some (.ref m) → m_lk lv 1 = some (.int xv) → m_lk lv 2 = some (.int xi) → HJ 229 44 lv [] h Q := by
  intro d
  induction d with
  | zero =>
    intro i lv h G xi hd M I hi e0 e1 e2
    refine s_ho44 M e0 e1 hv e2 hi (by omega) (by omega) (by omega) (by omega) hw (fun x2 q2 lv2 d0 d1 d2 _ _ _ => g lv2 h G x2 M (fun x => ?_) q2 d0 d1) (fun h5 G5 f5 x6 q6 lv6 M5 e6_0 e6_1 e6_2 a1 b1 c49 a3 b3 => by omega)
    have := I x
    rw [z_cb]
    revert this
    split <;> intro this <;> omega
  | succ d ih =>
    intro i lv h G xi hd M I hi e0 e1 e2
    refine s_ho44 M e0 e1 hv e2 hi (by omega) (by omega) (by omega) (by omega) hw (fun x2 q2 lv2 d0 d1 d2 _ _ _ => by omega) (fun h5 G5 f5 x6 q6 lv6 M5 d0 d1 d2 _ _ _ _ _ => ?_)
    refine ih (i + 1) lv6 h5 G5 x6 (by omega) M5 (fun x => ?_) (by omega) d0 d1 d2
    have a := I x
    have b := z_hcU (H := G 42) (x := x) (b := z_bit v) (a := (V 27 (i : Int).toNat).toNat) n
    have e : G5 42 = m_u (G 42) (V 27 (i : Int).toNat).toNat (G 42 (V 27 (i : Int).toNat).toNat ||| z_bit v) := by
      rw [f5, m_uE]
      rfl
    rw [e]
    revert a b
    split <;> intro a b <;> omega
theorem l_ho25 {F0 : Nat → Int} {V0 : Nat → Nat → Int} {n : Nat} (hw : d_sub g_hd W = true) (s0 : 0 ≤ F0 35) (s41 : F0 35 ≤ 41) (n1 : F0 17 ≤ 16000) (sh : p_sh (F0 17) (V0 22) (V0 23)) (ro : p_ro (F0 17) (F0 35) (V0 22) (V0 36)) (g : ∀ (h' : MH) (F' : Nat → Int) (V' : Nat → Nat → Int) (G' : Nat → Nat → Int64), MX 49 W ρ m A h0 h' F' V' G' → z_hI F0 V0 F' V' → (∀ x, z_hc (G' 42) x n ≤ 63 * z_cb x (F0 35).toNat) → Q none h') : ∀ (d v : Nat) (lv : List (Nat × Value)) (h : MH) (F : Nat → Int) (V : Nat → Nat → Int) (G : Nat → Nat → Int64) (xv : Int32), v + d = (F0 35).toNat → MX 49 W ρ m A h0 h F V G → z_hI F0 V0 F V → (∀ x, z_hc (G 42) x n ≤ 63 * z_cb x v) → xv.toInt = (v : Int) → m_lk lv 0 = some (.ref m) → m_lk lv 1 = some (.int xv) → HJ 229 25 lv [] h Q := by
  have w1 : d_sub [(61, 1001)] W = true := d_subm hw (by decide +kernel)
  have w2 : d_sub g_wk W = true := d_subm hw (by decide +kernel)
  have w3 : d_sub [(77, 1001)] W = true := d_subm hw (by decide +kernel)
  intro d
  induction d with
  | zero =>
    intro v lv h F V G xv hd M I c hv e0 e1
    have f35 := I.1 35 (by decide)
    have ve : v = (F0 35).toNat := by omega
    subst ve
    exact s_ho25 M e0 e1 hv (fun _ _ _ => g h F V G M I c) (fun _ _ c => by omega)
  | succ d ih =>
    intro v lv h F V G xv hd M I c hv e0 e1
    have f35 := I.1 35 (by decide)
    have f17 := I.1 17 (by decide)
    refine s_ho25 M e0 e1 hv (fun _ _ _ => by omega) (fun _ _ _ => ?_)
    refine c_hand (v := v) M hv (by omega) w1 (fun h2 V2 M2 k1 k2 => ?_)
    have v22 : V2 22 = V0 22 := by rw [k2 22 (by decide), I.2 22 (by decide)]
    have v23 : V2 23 = V0 23 := by rw [k2 23 (by decide), I.2 23 (by decide)]
    refine s_ho38 M2 e0 e1 hv ?_
    refine c_walkAll M2 rfl w2 (by rw [f17, v22, v23]; exact sh) (fun r h6 => ?_) (by omega) (fun h3 F3 V3 M3 J fw X _ => ?_)
    · rw [f17, v22, k1 r h6, I.2 36 (by decide)]
      exact ro v r (by omega) h6
    · have wl := p_wsL (f := V2 24) 6
      have p64 : (2 : Nat) ^ 6 = 64 := rfl
      have I3 : z_hI F0 V0 F3 V3 := ⟨fun K hK => (J.1 K hK).trans (I.1 K hK), fun K hK => by rw [J.2 K (by omega), k2 K (by omega), I.2 K hK]⟩
      refine s_ho42 M3 e0 e1 hv (fun x1 q1 lv2 d0 d1 d2 => ?_)
      exact l_ho44 (v := v) (n := n) w3 (by omega) fw (by omega) hv (fun lv4 h4 G4 xv' M4 c4 q4 b0 b1 => ih (v + 1) lv4 h4 F3 V3 G4 xv' (by omega) M4 I3 c4 (by omega) b0 b1) (p_ws (V2 24) 6) 0 lv2 h3 G x1 (by omega) M3 (fun x => by have := c x; split <;> omega) q1 d0 d1 d2
theorem l_ho2 {n : Nat} (hw : d_sub [(77, 1001)] W = true) (fn : F 17 = (n : Int)) (n1 : n ≤ 16000) (g : ∀ (lv : List (Nat × Value)) (h : MH) (G : Nat → Nat → Int64) (x : Int32), MX 49 W ρ m A h0 h F V G → (∀ k, k < n → G 42 k = 0) → x.toInt = 0 → m_lk lv 0 = some (.ref m) → m_lk lv 1 = some (.int x) → HJ 229 25 lv [] h Q) : ∀ (d k : Nat) (lv : List (Nat × Value)) (h : MH) (G : Nat → Nat → Int64) (xk : Int32), k + d = n → MX 49 W ρ m A h0 h F V G → (∀ j, j < k → G 42 j = 0) → xk.toInt = (k : Int) → m_lk lv 0 = some (.ref m) → m_lk lv 1 = some (.int xk) → HJ 229 2 lv [] h Q := by
  intro d
  induction d with
  | zero =>
    intro k lv h G xk hd M I hk e0 e1
    exact s_ho2 M e0 e1 hk (by omega) (by omega) hw (fun x2 q2 lv3 d0 d1 _ _ _ => g lv3 h G x2 M (fun j hj => I j (by omega)) q2 d0 d1) (fun h4 G4 f4 x5 q5 lv5 M4 e5_0 e5_1 a1 b1 c7 => by omega)
  | succ d ih =>
    intro k lv h G xk hd M I hk e0 e1
    refine s_ho2 M e0 e1 hk (by omega) (by omega) hw (fun x2 q2 lv3 d0 d1 _ _ _ => by omega) (fun h4 G4 f4 x5 q5 lv5 M4 d0 d1 _ _ _ => ?_)
    rw [Int.toNat_natCast] at f4
    refine ih (k + 1) lv5 h4 G4 x5 (by omega) M4 (fun j hj => ?_) (by omega) d0 d1
    rw [f4, m_uE]
    by_cases e : j = k
    · rw [e, m_uE]
      rfl
    · rw [m_uN _ _ _ _ e]
      exact I j (by omega)
theorem c_hold (M : MX 49 W ρ m A h0 h F V G) (hw : d_sub g_hd W = true) (s0 : 0 ≤ F 35) (s41 : F 35 ≤ 41) (n0 : 0 ≤ F 17) (n1 : F 17 ≤ 16000) (sh : p_sh (F 17) (V 22) (V 23)) (ro : p_ro (F 17) (F 35) (V 22) (V 36)) (g : ∀ (h' : MH) (F' : Nat → Int) (V' : Nat → Nat → Int) (G' : Nat → Nat → Int64), MX 49 W ρ m A h0 h' F' V' G' → z_hI F V F' V' → (∀ x, z_hc (G' 42) x (F 17).toNat ≤ 63 * z_cb x (F 35).toNat) → Q none h') : HJ 229 0 (lv_args 0 [.ref m]) [] h Q := by
  have w3 : d_sub [(77, 1001)] W = true := d_subm hw (by decide +kernel)
  refine s_ho0 M rfl (fun x1 q1 lv2 e0 e1 => ?_)
  refine l_ho2 (n := (F 17).toNat) w3 (by omega) (by omega) (fun lv3 h3 G3 x M3 k1 q3 d0 d1 => ?_) (F 17).toNat 0 lv2 h G x1 (by omega) M (fun j hj => absurd hj (Nat.not_lt_zero j)) q1 e0 e1
  exact l_ho25 (F0 := F) (V0 := V) (n := (F 17).toNat) hw s0 s41 n1 sh ro g (F 35).toNat 0 lv3 h3 F V G3 x (by omega) M3 ⟨fun _ _ => rfl, fun _ _ => rfl⟩ (fun x => by rw [z_hc0 k1]; omega) q3 d0 d1
-- sets and bits, of which nothing is wanted but that they end
theorem s_bo0 {x : Int} (M : MX 49 W ρ m A h0 h F V G) {lx0 : Int32} (e0 : m_lk lv 0 = some (.int lx0)) (lq0 : lx0.toInt = x) 
    (g0 : ∀ x1 : Int32, x1.toInt = 0 → ∀ x3 : Int32, x3.toInt = 0 → ∀ lv4 : List (Nat × Value), m_lk lv4 0 = some (.int lx0) → m_lk lv4 1 = some (.int x1) → m_lk lv4 2 = some (.int x3) → HJ 250 4 lv4 [] h Q)
    : HJ 250 0 lv [] h Q := by
  refine hM_ic (n := 0) rfl (by decide) rfl (fun x1 q1 => ?_) -- 0
  refine hM_si (k := 1) rfl (by decide +kernel) rfl (fun lv2 e2_1 u2 => ?_) -- 1
  have e2_0 := u2 0 _ (by decide) (Or.inl rfl) e0
  refine hM_ic (n := 0) rfl (by decide) rfl (fun x3 q3 => ?_) -- 2
  refine hM_si (k := 2) rfl (by decide +kernel) rfl (fun lv4 e4_2 u4 => ?_) -- 3
  have e4_0 := u4 0 _ (by decide) (Or.inl rfl) e2_0
  have e4_1 := u4 1 _ (by decide) (Or.inl rfl) e2_1
  exact g0 x1 q1 x3 q3 lv4 e4_0 e4_1 e4_2
theorem s_bo4 {x n i : Int} (M : MX 49 W ρ m A h0 h F V G) {lx0 : Int32} (e0 : m_lk lv 0 = some (.int lx0)) (lq0 : lx0.toInt = x) {lx1 : Int32} (e1 : m_lk lv 1 = some (.int lx1)) (lq1 : lx1.toInt = n) {lx2 : Int32} (e2 : m_lk lv 2 = some (.int lx2)) (lq2 : lx2.toInt = i) 
    (g0 : i ≥ 12 → Q (some (.int lx1)) h)
    (g1 : i < 12 → HJ 232 0 (lv_args 0 [.long (Int32.ofInt (x)).toInt64, .int lx2]) [] h (fun v h' => HJ 250 17 lv (v.toList ++ [.int lx1]) h' Q))
    : HJ 250 4 lv [] h Q := by
  refine hI_il (k := 2) rfl e2 rfl ?_ -- 4
  refine hM_bp (n := 12) rfl (by decide) rfl (fun x1 q1 => ?_) -- 5
  refine hM_cge (off := 26) (t := 33) rfl lq2 q1 (by decide) rfl (fun c7 => ?_) (fun c7 => ?_) -- 7
  · refine hI_il (k := 1) rfl e1 rfl ?_ -- 33
    refine hI_ri rfl rfl ?_ -- 34
    exact g0 c7
  · refine hI_il (k := 1) rfl e1 rfl ?_ -- 10
    refine hI_il (k := 0) rfl e0 rfl ?_ -- 11
    refine hM_i2l rfl lq0 rfl ?_ -- 12
    refine hI_il (k := 2) rfl e2 rfl ?_ -- 13
    refine hM_is0 (as := [.long (Int32.ofInt (x)).toInt64, .int lx2]) (r := [.int lx1]) rfl rfl (by decide +kernel) rfl rfl rfl rfl rfl ?_ -- 14
    exact g1 c7
theorem s_bo17 {x n i z : Int} (M : MX 49 W ρ m A h0 h F V G) {lx0 : Int32} (e0 : m_lk lv 0 = some (.int lx0)) (lq0 : lx0.toInt = x) {lx2 : Int32} (e2 : m_lk lv 2 = some (.int lx2)) (lq2 : lx2.toInt = i) {sx0 : Int32} (sq0 : sx0.toInt = n) {sx1 : Int32} (sq1 : sx1.toInt = z) (i0 : 0 ≤ i) (i1 : i ≤ 12) (n0 : 0 ≤ n) (n1 : n ≤ 12)
    (g0 : ∀ x2 : Int32, x2.toInt = n + 0 → ∀ x4 : Int32, x4.toInt = i + 1 → ∀ lv4 : List (Nat × Value), m_lk lv4 0 = some (.int lx0) → m_lk lv4 1 = some (.int x2) → m_lk lv4 2 = some (.int x4) → z = 0 → HJ 250 4 lv4 [] h Q)
    (g1 : ∀ x6 : Int32, x6.toInt = n + 1 → ∀ x8 : Int32, x8.toInt = i + 1 → ∀ lv8 : List (Nat × Value), m_lk lv8 0 = some (.int lx0) → m_lk lv8 1 = some (.int x6) → m_lk lv8 2 = some (.int x8) → z ≠ 0 → HJ 250 4 lv8 [] h Q)
    : HJ 250 17 lv [.int sx1, .int sx0] h Q := by
  refine hM_zeq (off := 7) (t := 24) rfl sq1 (by decide) rfl (fun c17 => ?_) (fun c17 => ?_) -- 17
  · refine hM_ic (n := 0) rfl (by decide) rfl (fun x1 q1 => ?_) -- 24
    refine hM_add rfl sq0 q1 (by omega) (by omega) rfl (fun x2 q2 => ?_) -- 25
    refine hM_si (k := 1) rfl (by decide +kernel) rfl (fun lv3 e3_1 u3 => ?_) -- 26
    have e3_0 := u3 0 _ (by decide) (Or.inl rfl) e0
    have e3_2 := u3 2 _ (by decide) (Or.inl rfl) e2
    refine hM_inc (k := 2) (z := 1) rfl e3_2 lq2 (by decide) (by omega) (by omega) (by decide +kernel) rfl (fun lv4 x4 q4 e4_2 u4 => ?_) -- 27
    have e4_0 := u4 0 _ (by decide) (Or.inl rfl) e3_0
    have e4_1 := u4 1 _ (by decide) (Or.inl rfl) e3_1
    refine hI_go (pc' := 4) (off := (-26)) rfl (by decide) ?_ -- 30
    exact g0 x2 q2 x4 q4 lv4 e4_0 e4_1 e4_2 c17
  · refine hM_ic (n := 1) rfl (by decide) rfl (fun x5 q5 => ?_) -- 20
    refine hI_go (pc' := 25) (off := 4) rfl (by decide) ?_ -- 21
    refine hM_add rfl sq0 q5 (by omega) (by omega) rfl (fun x6 q6 => ?_) -- 25
    refine hM_si (k := 1) rfl (by decide +kernel) rfl (fun lv7 e7_1 u7 => ?_) -- 26
    have e7_0 := u7 0 _ (by decide) (Or.inl rfl) e0
    have e7_2 := u7 2 _ (by decide) (Or.inl rfl) e2
    refine hM_inc (k := 2) (z := 1) rfl e7_2 lq2 (by decide) (by omega) (by omega) (by decide +kernel) rfl (fun lv8 x8 q8 e8_2 u8 => ?_) -- 27
    have e8_0 := u8 0 _ (by decide) (Or.inl rfl) e7_0
    have e8_1 := u8 1 _ (by decide) (Or.inl rfl) e7_1
    refine hI_go (pc' := 4) (off := (-26)) rfl (by decide) ?_ -- 30
    exact g1 x6 q6 x8 q8 lv8 e8_0 e8_1 e8_2 c17
theorem c_bitsOf {xx : Int32} (M : MX 49 W ρ m A h0 h F V G) (g : ∀ z : Int32, Q (some (.int z)) h) : HJ 250 0 (lv_args 0 [.int xx]) [] h Q := by
  have loop : ∀ (d i n : Nat) (lv : List (Nat × Value)) (xn xi : Int32), i + d = 12 → n ≤ i → xn.toInt = (n : Int) → xi.toInt = (i : Int) → m_lk lv 0 = some (.int xx) → m_lk lv 1 = some (.int xn) → m_lk lv 2 = some (.int xi) → HJ 250 4 lv [] h Q := by
    intro d
    induction d with
    | zero =>
      intro i n lv xn xi hd hn qn qi e0 e1 e2
      exact s_bo4 M e0 rfl e1 qn e2 qi (fun _ => g xn) (fun c => by omega)
    | succ d ih =>
      intro i n lv xn xi hd hn qn qi e0 e1 e2
      refine s_bo4 M e0 rfl e1 qn e2 qi (fun _ => g xn) (fun c => c_has M qi (fun z z0 z1 => ?_))
      exact s_bo17 (z := z.toInt) M e0 rfl e2 qi qn rfl (by omega) (by omega) (by omega) (by omega) (fun x2 q2 x4 q4 lv4 d0 d1 d2 _ => ih (i + 1) n lv4 x2 x4 (by omega) (by omega) (by omega) (by omega) d0 d1 d2) (fun x2 q2 x4 q4 lv4 d0 d1 d2 _ => ih (i + 1) (n + 1) lv4 x2 x4 (by omega) (by omega) (by omega) (by omega) d0 d1 d2)
  exact s_bo0 M rfl rfl (fun x1 q1 x3 q3 lv4 e0 e1 e2 => loop 12 0 0 lv4 x1 x3 rfl (by omega) q1 q3 e0 e1 e2)
theorem s_so0 {x : Int} (M : MX 49 W ρ m A h0 h F V G) (e0 : m_lk lv 0 = some (.ref m)) {lx1 : Int32} (e1 : m_lk lv 1 = some (.int lx1)) (lq1 : lx1.toInt = x) 
    (g0 : ∀ x2 : Int32, x2.toInt = 0 → ∀ lv3 : List (Nat × Value), m_lk lv3 0 = some (.ref m) → m_lk lv3 1 = some (.int lx1) → m_lk lv3 2 = some (.long (Int64.ofNat (0 : Fin 2).val)) → m_lk lv3 4 = some (.int x2) → HJ 251 5 lv3 [] h Q)
    : HJ 251 0 lv [] h Q := by
  refine hI_lc (n := 0) rfl rfl ?_ -- 0
  refine hM_sl (k := 2) rfl (by decide +kernel) rfl (fun lv1 e1_2 u1 => ?_) -- 1
  have e1_0 := u1 0 _ (by decide) (by decide) (Or.inl rfl) e0
  have e1_1 := u1 1 _ (by decide) (by decide) (Or.inl rfl) e1
  refine hM_ic (n := 0) rfl (by decide) rfl (fun x2 q2 => ?_) -- 2
  refine hM_si2 (k := 4) rfl (by decide +kernel) rfl (fun lv3 e3_4 u3 => ?_) -- 3
  have e3_0 := u3 0 _ (by decide) (Or.inl rfl) e1_0
  have e3_1 := u3 1 _ (by decide) (Or.inl rfl) e1_1
  have e3_2 := u3 2 _ (by decide) (Or.inr (by decide)) e1_2
  exact g0 x2 q2 lv3 e3_0 e3_1 e3_2 e3_4
theorem s_so5 {x i : Int} (M : MX 49 W ρ m A h0 h F V G) (e0 : m_lk lv 0 = some (.ref m)) {lx1 : Int32} (e1 : m_lk lv 1 = some (.int lx1)) (lq1 : lx1.toInt = x) {lx2 : Int64} (e2 : m_lk lv 2 = some (.long lx2)) {lx4 : Int32} (e4 : m_lk lv 4 = some (.int lx4)) (lq4 : lx4.toInt = i) 
    (g0 : 0 ≤ F 47 → F 47 ≤ 12 → i ≥ F 47 → Q (some (.long lx2)) h)
    (g1 : 0 ≤ F 47 → F 47 ≤ 12 → i < F 47 → HJ 232 0 (lv_args 0 [.long (Int32.ofInt (x)).toInt64, .int lx4]) [] h (fun v h' => HJ 251 22 lv (v.toList ++ [.long lx2]) h' Q))
    : HJ 251 5 lv [] h Q := by
  refine hI_il2 (k := 4) rfl e4 rfl ?_ -- 5
  refine hI_al (k := 0) rfl e0 rfl ?_ -- 7
  refine hM_gi M (by decide) rfl rfl rfl (k := 47) (c := 9) (lo := 0) (hi := 12) rfl rfl rfl rfl rfl (fun x1 q1 a1 b1 => ?_) -- 8
  refine hM_cge (off := 35) (t := 46) rfl lq4 q1 (by decide) rfl (fun c11 => ?_) (fun c11 => ?_) -- 11
  · refine hI_ll (k := 2) rfl e2 rfl ?_ -- 46
    refine hI_rl rfl rfl ?_
    exact g0 a1 b1 c11
  · refine hI_ll (k := 2) rfl e2 rfl ?_ -- 14
    refine hI_il (k := 1) rfl e1 rfl ?_ -- 15
    refine hM_i2l rfl lq1 rfl ?_ -- 16
    refine hI_il2 (k := 4) rfl e4 rfl ?_ -- 17
    refine hM_is0 (as := [.long (Int32.ofInt (x)).toInt64, .int lx4]) (r := [.long lx2]) rfl rfl (by decide +kernel) rfl rfl rfl rfl rfl ?_ -- 19
    exact g1 a1 b1 c11
theorem s_so22 {x i z : Int} (M : MX 49 W ρ m A h0 h F V G) (e0 : m_lk lv 0 = some (.ref m)) {lx1 : Int32} (e1 : m_lk lv 1 = some (.int lx1)) (lq1 : lx1.toInt = x) {lx4 : Int32} (e4 : m_lk lv 4 = some (.int lx4)) (lq4 : lx4.toInt = i) {sx0 : Int64} {sx1 : Int32} (sq1 : sx1.toInt = z) (i0 : 0 ≤ i) (i1 : i ≤ 11)
    (g0 : ∀ x2 : Int32, x2.toInt = i + 1 → ∀ lv2 : List (Nat × Value), m_lk lv2 0 = some (.ref m) → m_lk lv2 1 = some (.int lx1) → m_lk lv2 2 = some (.long (sx0 ||| (Int64.ofNat (0 : Fin 2).val))) → m_lk lv2 4 = some (.int x2) → z = 0 → HJ 251 5 lv2 [] h Q)
    (g1 : ∀ x5 : Int32, x5.toInt = i + 1 → ∀ lv5 : List (Nat × Value), m_lk lv5 0 = some (.ref m) → m_lk lv5 1 = some (.int lx1) → m_lk lv5 2 = some (.long (sx0 ||| ((Int64.ofNat (1 : Fin 2).val) <<< ((Int32.ofInt (V 48 (i).toNat)).toInt64 &&& 63)))) → m_lk lv5 4 = some (.int x5) → z ≠ 0 → 0 ≤ V 48 (i).toNat → V 48 (i).toNat ≤ 40 → HJ 251 5 lv5 [] h Q)
    : HJ 251 22 lv [.int sx1, .long sx0] h Q := by
  refine hM_zeq (off := 15) (t := 37) rfl sq1 (by decide) rfl (fun c22 => ?_) (fun c22 => ?_) -- 22
  · refine hI_lc (n := 0) rfl rfl ?_ -- 37
    refine hI_lor rfl rfl ?_ -- 38
    refine hM_sl (k := 2) rfl (by decide +kernel) rfl (fun lv1 e1_2 u1 => ?_) -- 39
    have e1_0 := u1 0 _ (by decide) (by decide) (Or.inl rfl) e0
    have e1_1 := u1 1 _ (by decide) (by decide) (Or.inl rfl) e1
    have e1_4 := u1 4 _ (by decide) (by decide) (Or.inl rfl) e4
    refine hM_inc (k := 4) (z := 1) rfl e1_4 lq4 (by decide) (by omega) (by omega) (by decide +kernel) rfl (fun lv2 x2 q2 e2_4 u2 => ?_) -- 40
    have e2_0 := u2 0 _ (by decide) (Or.inl rfl) e1_0
    have e2_1 := u2 1 _ (by decide) (Or.inl rfl) e1_1
    have e2_2 := u2 2 _ (by decide) (Or.inr (by decide)) e1_2
    refine hI_go (pc' := 5) (off := (-38)) rfl (by decide) ?_ -- 43
    exact g0 x2 q2 lv2 e2_0 e2_1 e2_2 e2_4 c22
  · refine hI_lc (n := 1) rfl rfl ?_ -- 25
    refine hI_al (k := 0) rfl e0 rfl ?_ -- 26
    refine hM_ga M (by decide) rfl rfl (k := 48) (c := 9) rfl rfl rfl (by decide +kernel) rfl ?_ -- 27
    refine hI_il2 (k := 4) rfl e4 rfl ?_ -- 30
    refine hM_ia M (by decide) (K := 48) (R2 := 81) (L := 12) (H := 12) (lo := 0) (hi := 40) rfl (by decide) rfl rfl (fun _ => rfl) rfl lq4 (by omega) (by omega) rfl (fun x3 q3 a3 b3 => ?_) -- 32
    refine hM_lshl rfl q3 rfl ?_ -- 33
    refine hI_go (pc' := 38) (off := 4) rfl (by decide) ?_ -- 34
    refine hI_lor rfl rfl ?_ -- 38
    refine hM_sl (k := 2) rfl (by decide +kernel) rfl (fun lv4 e4_2 u4 => ?_) -- 39
    have e4_0 := u4 0 _ (by decide) (by decide) (Or.inl rfl) e0
    have e4_1 := u4 1 _ (by decide) (by decide) (Or.inl rfl) e1
    have e4_4 := u4 4 _ (by decide) (by decide) (Or.inl rfl) e4
    refine hM_inc (k := 4) (z := 1) rfl e4_4 lq4 (by decide) (by omega) (by omega) (by decide +kernel) rfl (fun lv5 x5 q5 e5_4 u5 => ?_) -- 40
    have e5_0 := u5 0 _ (by decide) (Or.inl rfl) e4_0
    have e5_1 := u5 1 _ (by decide) (Or.inl rfl) e4_1
    have e5_2 := u5 2 _ (by decide) (Or.inr (by decide)) e4_2
    refine hI_go (pc' := 5) (off := (-38)) rfl (by decide) ?_ -- 43
    exact g1 x5 q5 lv5 e5_0 e5_1 e5_2 e5_4 c22 a3 b3
theorem c_setOf {xx : Int32} (M : MX 49 W ρ m A h0 h F V G) (g : ∀ z : Int64, Q (some (.long z)) h) : HJ 251 0 (lv_args 0 [.ref m, .int xx]) [] h Q := by
  have loop : ∀ (d i : Nat) (lv : List (Nat × Value)) (xs : Int64) (xi : Int32), i + d = 12 → xi.toInt = (i : Int) → m_lk lv 0 = some (.ref m) → m_lk lv 1 = some (.int xx) → m_lk lv 2 = some (.long xs) → m_lk lv 4 = some (.int xi) → HJ 251 5 lv [] h Q := by
    intro d
    induction d with
    | zero =>
      intro i lv xs xi hd qi e0 e1 e2 e4
      exact s_so5 M e0 e1 rfl e2 e4 qi (fun _ _ _ => g xs) (fun _ _ c => by omega)
    | succ d ih =>
      intro i lv xs xi hd qi e0 e1 e2 e4
      refine s_so5 M e0 e1 rfl e2 e4 qi (fun _ _ _ => g xs) (fun _ _ c => c_has M qi (fun z z0 z1 => ?_))
      exact s_so22 (z := z.toInt) M e0 e1 rfl e4 qi rfl (by omega) (by omega) (fun x2 q2 lv2 d0 d1 d2 d4 _ => ih (i + 1) lv2 _ x2 (by omega) (by omega) d0 d1 d2 d4) (fun x2 q2 lv2 d0 d1 d2 d4 _ _ _ => ih (i + 1) lv2 _ x2 (by omega) (by omega) d0 d1 d2 d4)
  exact s_so0 M rfl rfl rfl (fun x2 q2 lv3 e0 e1 e2 e4 => loop 12 0 lv3 _ x2 rfl q2 e0 e1 e2 e4)
theorem s_cv0 (M : MX 49 W ρ m A h0 h F V G) (e0 : m_lk lv 0 = some (.ref m)) {lx1 : Int64} (e1 : m_lk lv 1 = some (.long lx1)) 
    (g0 : ∀ x1 : Int32, x1.toInt = 0 → ∀ lv2 : List (Nat × Value), m_lk lv2 0 = some (.ref m) → m_lk lv2 1 = some (.long lx1) → m_lk lv2 3 = some (.int x1) → HJ 252 2 lv2 [] h Q)
    : HJ 252 0 lv [] h Q := by
  refine hM_ic (n := 0) rfl (by decide) rfl (fun x1 q1 => ?_) -- 0
  refine hM_si (k := 3) rfl (by decide +kernel) rfl (fun lv2 e2_3 u2 => ?_) -- 1
  have e2_0 := u2 0 _ (by decide) (Or.inl rfl) e0
  have e2_1 := u2 1 _ (by decide) (Or.inr (by decide)) e1
  exact g0 x1 q1 lv2 e2_0 e2_1 e2_3
theorem s_cv2 {i : Int} (M : MX 49 W ρ m A h0 h F V G) (e0 : m_lk lv 0 = some (.ref m)) {lx1 : Int64} (e1 : m_lk lv 1 = some (.long lx1)) {lx3 : Int32} (e3 : m_lk lv 3 = some (.int lx3)) (lq3 : lx3.toInt = i) (i0 : 0 ≤ i) (m1 : F 49 ≤ 1024)
    (g0 : ∀ x2 : Int32, x2.toInt = 1 → 0 ≤ F 49 → F 49 ≤ 1024 → i ≥ F 49 → Q (some (.int x2)) h)
    (g1 : ∀ x5 : Int32, x5.toInt = i + 1 → ∀ lv5 : List (Nat × Value), m_lk lv5 0 = some (.ref m) → m_lk lv5 1 = some (.long lx1) → m_lk lv5 3 = some (.int x5) → 0 ≤ F 49 → F 49 ≤ 1024 → i < F 49 → (lg_cmp ((G 50 (i).toNat) &&& lx1) (Int64.ofNat (0 : Fin 2).val)).toInt ≠ 0 → HJ 252 2 lv5 [] h Q)
    (g2 : ∀ x6 : Int32, x6.toInt = 0 → 0 ≤ F 49 → F 49 ≤ 1024 → i < F 49 → (lg_cmp ((G 50 (i).toNat) &&& lx1) (Int64.ofNat (0 : Fin 2).val)).toInt = 0 → Q (some (.int x6)) h)
    : HJ 252 2 lv [] h Q := by
  refine hI_il (k := 3) rfl e3 rfl ?_ -- 2
  refine hI_al (k := 0) rfl e0 rfl ?_ -- 3
  refine hM_gi M (by decide) rfl rfl rfl (k := 49) (c := 9) (lo := 0) (hi := 1024) rfl rfl rfl rfl rfl (fun x1 q1 a1 b1 => ?_) -- 4
  refine hM_cge (off := 24) (t := 31) rfl lq3 q1 (by decide) rfl (fun c7 => ?_) (fun c7 => ?_) -- 7
  · refine hM_ic (n := 1) rfl (by decide) rfl (fun x2 q2 => ?_) -- 31
    refine hM_rb rfl rfl q2 (by omega) (by omega) ?_ -- 32
    exact g0 x2 q2 a1 b1 c7
  · refine hI_al (k := 0) rfl e0 rfl ?_ -- 10
    refine hM_ga M (by decide) rfl rfl (k := 50) (c := 9) rfl rfl rfl (by decide +kernel) rfl ?_ -- 11
    refine hI_il (k := 3) rfl e3 rfl ?_ -- 14
    refine hM_la M (by decide) (K := 50) (R2 := 82) (L := 1024) (H := 1024) rfl (by decide) rfl rfl rfl lq3 (by omega) (by omega) rfl ?_ -- 15
    refine hI_ll (k := 1) rfl e1 rfl ?_ -- 16
    refine hI_land rfl rfl ?_ -- 17
    refine hI_lc (n := 0) rfl rfl ?_ -- 18
    refine hM_lcmp rfl rfl (fun x4 q4 => ?_) -- 19
    refine hM_zne (off := 5) (t := 25) rfl q4 (by decide) rfl (fun c20 => ?_) (fun c20 => ?_) -- 20
    · refine hM_inc (k := 3) (z := 1) rfl e3 lq3 (by decide) (by omega) (by omega) (by decide +kernel) rfl (fun lv5 x5 q5 e5_3 u5 => ?_) -- 25
      have e5_0 := u5 0 _ (by decide) (Or.inl rfl) e0
      have e5_1 := u5 1 _ (by decide) (Or.inr (by decide)) e1
      refine hI_go (pc' := 2) (off := (-26)) rfl (by decide) ?_ -- 28
      exact g1 x5 q5 lv5 e5_0 e5_1 e5_3 a1 b1 c7 c20
    · refine hM_ic (n := 0) rfl (by decide) rfl (fun x6 q6 => ?_) -- 23
      refine hM_rb rfl rfl q6 (by omega) (by omega) ?_ -- 24
      exact g2 x6 q6 a1 b1 c7 c20
theorem c_covers {x : Int64} (M : MX 49 W ρ m A h0 h F V G) (g : ∀ z : Int32, Q (some (.int z)) h) : HJ 252 0 (lv_args 0 [.ref m, .long x]) [] h Q := by
  have b := M.fi (by decide) (k := 49) (lo := 0) (hi := 1024) rfl rfl rfl
  have loop : ∀ (d i : Nat) (lv : List (Nat × Value)) (xi : Int32), i + d = 1024 → xi.toInt = (i : Int) → m_lk lv 0 = some (.ref m) → m_lk lv 1 = some (.long x) → m_lk lv 3 = some (.int xi) → HJ 252 2 lv [] h Q := by
    intro d
    induction d with
    | zero =>
      intro i lv xi hd qi e0 e1 e3
      exact s_cv2 M e0 e1 e3 qi (by omega) (by omega) (fun z _ _ _ _ => g z) (fun x5 q5 lv5 _ _ _ _ _ c _ => by omega) (fun z _ _ _ _ _ => g z)
    | succ d ih =>
      intro i lv xi hd qi e0 e1 e3
      exact s_cv2 M e0 e1 e3 qi (by omega) (by omega) (fun z _ _ _ _ => g z) (fun x5 q5 lv5 d0 d1 d3 _ _ _ _ => ih (i + 1) lv5 x5 (by omega) (by omega) d0 d1 d3) (fun z _ _ _ _ _ => g z)
  exact s_cv0 M rfl rfl (fun x1 q1 lv2 e0 e1 e3 => loop 1024 0 lv2 x1 rfl q1 e0 e1 e3)
theorem s_lb0 (M : MX 49 W ρ m A h0 h F V G) (e0 : m_lk lv 0 = some (.ref m)) {lx1 : Int64} (e1 : m_lk lv 1 = some (.long lx1)) 
    (g0 : ∀ x1 : Int32, x1.toInt = 0 → ∀ x3 : Int32, x3.toInt = 0 → ∀ lv4 : List (Nat × Value), m_lk lv4 0 = some (.ref m) → m_lk lv4 1 = some (.long lx1) → m_lk lv4 3 = some (.int x1) → m_lk lv4 4 = some (.int x3) → HJ 286 5 lv4 [] h Q)
    : HJ 286 0 lv [] h Q := by
  refine hM_ic (n := 0) rfl (by decide) rfl (fun x1 q1 => ?_) -- 0
  refine hM_si (k := 3) rfl (by decide +kernel) rfl (fun lv2 e2_3 u2 => ?_) -- 1
  have e2_0 := u2 0 _ (by decide) (Or.inl rfl) e0
  have e2_1 := u2 1 _ (by decide) (Or.inr (by decide)) e1
  refine hM_ic (n := 0) rfl (by decide) rfl (fun x3 q3 => ?_) -- 2
  refine hM_si2 (k := 4) rfl (by decide +kernel) rfl (fun lv4 e4_4 u4 => ?_) -- 3
  have e4_0 := u4 0 _ (by decide) (Or.inl rfl) e2_0
  have e4_1 := u4 1 _ (by decide) (Or.inr (by decide)) e2_1
  have e4_3 := u4 3 _ (by decide) (Or.inl rfl) e2_3
  exact g0 x1 q1 x3 q3 lv4 e4_0 e4_1 e4_3 e4_4
theorem s_lb5 {n i : Int} (M : MX 49 W ρ m A h0 h F V G) (e0 : m_lk lv 0 = some (.ref m)) {lx1 : Int64} (e1 : m_lk lv 1 = some (.long lx1)) {lx3 : Int32} (e3 : m_lk lv 3 = some (.int lx3)) (lq3 : lx3.toInt = n) {lx4 : Int32} (e4 : m_lk lv 4 = some (.int lx4)) (lq4 : lx4.toInt = i) (i0 : 0 ≤ i) (m1 : F 49 ≤ 1024) (n0 : 0 ≤ n) (n1 : n ≤ i)
    (g0 : 0 ≤ F 49 → F 49 ≤ 1024 → i ≥ F 49 → Q (some (.int lx3)) h)
    (g1 : ∀ x5 : Int32, x5.toInt = n + 0 → ∀ x7 : Int32, x7.toInt = i + 1 → ∀ lv7 : List (Nat × Value), m_lk lv7 0 = some (.ref m) → m_lk lv7 1 = some (.long lx1) → m_lk lv7 3 = some (.int x5) → m_lk lv7 4 = some (.int x7) → 0 ≤ F 49 → F 49 ≤ 1024 → i < F 49 → (lg_cmp ((G 50 (i).toNat) &&& (lx1 ^^^ (-1))) (Int64.ofNat (0 : Fin 2).val)).toInt ≠ 0 → HJ 286 5 lv7 [] h Q)
    (g2 : ∀ x9 : Int32, x9.toInt = n + 1 → ∀ x11 : Int32, x11.toInt = i + 1 → ∀ lv11 : List (Nat × Value), m_lk lv11 0 = some (.ref m) → m_lk lv11 1 = some (.long lx1) → m_lk lv11 3 = some (.int x9) → m_lk lv11 4 = some (.int x11) → 0 ≤ F 49 → F 49 ≤ 1024 → i < F 49 → (lg_cmp ((G 50 (i).toNat) &&& (lx1 ^^^ (-1))) (Int64.ofNat (0 : Fin 2).val)).toInt = 0 → HJ 286 5 lv11 [] h Q)
    : HJ 286 5 lv [] h Q := by
  refine hI_il2 (k := 4) rfl e4 rfl ?_ -- 5
  refine hI_al (k := 0) rfl e0 rfl ?_ -- 7
  refine hM_gi M (by decide) rfl rfl rfl (k := 49) (c := 9) (lo := 0) (hi := 1024) rfl rfl rfl rfl rfl (fun x1 q1 a1 b1 => ?_) -- 8
  refine hM_cge (off := 35) (t := 46) rfl lq4 q1 (by decide) rfl (fun c11 => ?_) (fun c11 => ?_) -- 11
  · refine hI_il (k := 3) rfl e3 rfl ?_ -- 46
    refine hI_ri rfl rfl ?_ -- 47
    exact g0 a1 b1 c11
  · refine hI_il (k := 3) rfl e3 rfl ?_ -- 14
    refine hI_al (k := 0) rfl e0 rfl ?_ -- 15
    refine hM_ga M (by decide) rfl rfl (k := 50) (c := 9) rfl rfl rfl (by decide +kernel) rfl ?_ -- 16
    refine hI_il2 (k := 4) rfl e4 rfl ?_ -- 19
    refine hM_la M (by decide) (K := 50) (R2 := 82) (L := 1024) (H := 1024) rfl (by decide) rfl rfl rfl lq4 (by omega) (by omega) rfl ?_ -- 21
    refine hI_ll (k := 1) rfl e1 rfl ?_ -- 22
    refine hM_jc (x := (-1)) rfl rfl rfl ?_ -- 23
    refine hI_lxor rfl rfl ?_ -- 26
    refine hI_land rfl rfl ?_ -- 27
    refine hI_lc (n := 0) rfl rfl ?_ -- 28
    refine hM_lcmp rfl rfl (fun x3 q3 => ?_) -- 29
    refine hM_zne (off := 7) (t := 37) rfl q3 (by decide) rfl (fun c30 => ?_) (fun c30 => ?_) -- 30
    · refine hM_ic (n := 0) rfl (by decide) rfl (fun x4 q4 => ?_) -- 37
      refine hM_add rfl lq3 q4 (by omega) (by omega) rfl (fun x5 q5 => ?_) -- 38
      refine hM_si (k := 3) rfl (by decide +kernel) rfl (fun lv6 e6_3 u6 => ?_) -- 39
      have e6_0 := u6 0 _ (by decide) (Or.inl rfl) e0
      have e6_1 := u6 1 _ (by decide) (Or.inr (by decide)) e1
      have e6_4 := u6 4 _ (by decide) (Or.inl rfl) e4
      refine hM_inc (k := 4) (z := 1) rfl e6_4 lq4 (by decide) (by omega) (by omega) (by decide +kernel) rfl (fun lv7 x7 q7 e7_4 u7 => ?_) -- 40
      have e7_0 := u7 0 _ (by decide) (Or.inl rfl) e6_0
      have e7_1 := u7 1 _ (by decide) (Or.inr (by decide)) e6_1
      have e7_3 := u7 3 _ (by decide) (Or.inl rfl) e6_3
      refine hI_go (pc' := 5) (off := (-38)) rfl (by decide) ?_ -- 43
      exact g1 x5 q5 x7 q7 lv7 e7_0 e7_1 e7_3 e7_4 a1 b1 c11 c30
    · refine hM_ic (n := 1) rfl (by decide) rfl (fun x8 q8 => ?_) -- 33
      refine hI_go (pc' := 38) (off := 4) rfl (by decide) ?_ -- 34
      refine hM_add rfl lq3 q8 (by omega) (by omega) rfl (fun x9 q9 => ?_) -- 38
      refine hM_si (k := 3) rfl (by decide +kernel) rfl (fun lv10 e10_3 u10 => ?_) -- 39
      have e10_0 := u10 0 _ (by decide) (Or.inl rfl) e0
      have e10_1 := u10 1 _ (by decide) (Or.inr (by decide)) e1
      have e10_4 := u10 4 _ (by decide) (Or.inl rfl) e4
      refine hM_inc (k := 4) (z := 1) rfl e10_4 lq4 (by decide) (by omega) (by omega) (by decide +kernel) rfl (fun lv11 x11 q11 e11_4 u11 => ?_) -- 40
      have e11_0 := u11 0 _ (by decide) (Or.inl rfl) e10_0
      have e11_1 := u11 1 _ (by decide) (Or.inr (by decide)) e10_1
      have e11_3 := u11 3 _ (by decide) (Or.inl rfl) e10_3
      refine hI_go (pc' := 5) (off := (-38)) rfl (by decide) ?_ -- 43
      exact g2 x9 q9 x11 q11 lv11 e11_0 e11_1 e11_3 e11_4 a1 b1 c11 c30
theorem c_lostBy {x : Int64} (M : MX 49 W ρ m A h0 h F V G) (g : ∀ z : Int32, Q (some (.int z)) h) : HJ 286 0 (lv_args 0 [.ref m, .long x]) [] h Q := by
  have b := M.fi (by decide) (k := 49) (lo := 0) (hi := 1024) rfl rfl rfl
  have loop : ∀ (d i n : Nat) (lv : List (Nat × Value)) (xn xi : Int32), i + d = 1024 → n ≤ i → xn.toInt = (n : Int) → xi.toInt = (i : Int) → m_lk lv 0 = some (.ref m) → m_lk lv 1 = some (.long x) → m_lk lv 3 = some (.int xn) → m_lk lv 4 = some (.int xi) → HJ 286 5 lv [] h Q := by
    intro d
    induction d with
    | zero =>
      intro i n lv xn xi hd hn qn qi e0 e1 e3 e4
      exact s_lb5 M e0 e1 e3 qn e4 qi (by omega) (by omega) (by omega) (by omega) (fun _ _ _ => g xn) (fun x5 q5 x7 q7 lv7 _ _ _ _ _ _ c _ => by omega) (fun x5 q5 x7 q7 lv7 _ _ _ _ _ _ c _ => by omega)
    | succ d ih =>
      intro i n lv xn xi hd hn qn qi e0 e1 e3 e4
      exact s_lb5 M e0 e1 e3 qn e4 qi (by omega) (by omega) (by omega) (by omega) (fun _ _ _ => g xn) (fun x5 q5 x7 q7 lv7 d0 d1 d3 d4 _ _ c _ => ih (i + 1) n lv7 x5 x7 (by omega) (by omega) (by omega) (by omega) d0 d1 d3 d4) (fun x5 q5 x7 q7 lv7 d0 d1 d3 d4 _ _ c _ => ih (i + 1) (n + 1) lv7 x5 x7 (by omega) (by omega) (by omega) (by omega) d0 d1 d3 d4)
  exact s_lb0 M rfl rfl (fun x1 q1 x3 q3 lv4 e0 e1 e3 e4 => loop 1024 0 0 lv4 x1 x3 rfl (by omega) q1 q3 e0 e1 e3 e4)
end
