-- CHOOSE, THE FEWEST
section
variable {lv : List (Nat × Value)} {Q : Option Value → MH → Prop} {W : List (Nat × Nat)} {ρ : Nat → Nat} {m : Nat} {A : Nat → Nat} {h0 h : MH} {F : Nat → Int} {V : Nat → Nat → Int} {G : Nat → Nat → Int64}
def w_ch : List (Nat × Nat) := [(25, 0), (25, 3), (26, 1002), (27, 1001), (1000, 1002)]
theorem c_ch85 (ht : TH c_sp ρ h) (hm : ρ m = 25) (e0 : m_lk lv 0 = some (.ref m)) (g : ∀ (h' : MH) (V' : Nat → Nat → Int), MX 25 [(26, 1001)] ρ m (h_r h m) h h' (fun K => (h_i h m K).toInt) V' (fun K j => h_l h (h_r h m K) j) → Q none h') : HJ 158 85 lv [] h Q :=
  s_ch85 (MX.start (W := [(26, 1001)]) ht hm) e0 (fun x q => c_fillT (MX.start (W := [(26, 1001)]) ht hm) (by decide +kernel) (fun h' V' M' => s_ch93 (g h' V' M')))
theorem l_ch7 {p : Int64} (hw : d_sub [(27, 1001), (25, 3)] W = true) (g : ∀ (lv : List (Nat × Value)) (h : MH) (F : Nat → Int) (V : Nat → Nat → Int), MX 25 W ρ m A h0 h F V G → m_lk lv 0 = some (.ref m) → HJ 158 59 lv [] h Q) : ∀ (d v : Nat) (lv : List (Nat × Value)) (h : MH) (F : Nat → Int) (V : Nat → Nat → Int) (xv : Int32), v + d = 41 → MX 25 W ρ m A h0 h F V G → xv.toInt = (v : Int) → m_lk lv 0 = some (.ref m) → m_lk lv 1 = some (.long p) → m_lk lv 3 = some (.int xv) → HJ 158 7 lv [] h Q := by
  intro d
  induction d with
  | zero =>
    intro v lv h F V xv hd M qv e0 e1 e3
    exact s_ch7 M e0 e1 e3 qv (fun _ => g lv h F V M e0) (fun _ _ _ _ => g lv h F V M e0) (fun c _ _ _ => by omega)
  | succ d ih =>
    intro v lv h F V xv hd M qv e0 e1 e3
    have b := M.fi (by decide) (k := 3) (lo := 0) (hi := 12) rfl rfl rfl
    exact s_ch7 M e0 e1 e3 qv (fun _ => g lv h F V M e0) (fun _ _ _ _ => g lv h F V M e0) (fun c _ _ c19 => c_bit (fun y => s_ch27 M e0 e1 e3 qv (by omega) (by omega) (by omega) (by omega) hw (fun x2 q2 lv2 d0 d1 d3 _ => ih (v + 1) lv2 h F V x2 (by omega) M (by omega) d0 d1 d3) (fun h4 V4 _ h8 F8 _ x9 q9 lv9 M8 d0 d1 d3 _ _ _ => ih (v + 1) lv9 h8 F8 V4 x9 (by omega) M8 (by omega) d0 d1 d3)))
theorem z_pn {x : Int} {n : Nat} (e : x = (2 : Int) ^ n) : x.toNat = 2 ^ n := by
  have h3 : (((2 : Nat) ^ n : Nat) : Int) = (2 : Int) ^ n := Int.natCast_pow 2 n
  rw [e, ← h3]
  exact Int.toNat_natCast _
theorem c_choose {p : Int64} (ht : TH c_sp ρ h) (hm : ρ m = 25) (t1 : t_nd ρ h) (t2 : t_rm ρ h) (g : ∀ (ρ' A' : Nat → Nat) (h1 h' : MH) (F' : Nat → Int) (V' : Nat → Nat → Int) (G' : Nat → Nat → Int64), FQ ρ ρ' w_ch h h1 → TH c_sp ρ' h1 → MX 25 [(26, 1001)] ρ' m A' h1 h' F' V' G' → t_nd ρ' h1 → t_rm ρ' h1 → (2 : Int) ^ (F' 3).toNat ≤ ((h_k h1 (A' 0)).2 : Int) → Q none h') : HJ 158 0 (lv_args 0 [.ref m, .long p]) [] h Q := by
  refine s_ch0 (MX.start (W := [(25, 3), (27, 1001)]) ht hm) rfl rfl (by decide +kernel) (fun h2 F2 f2 x3 q3 lv4 M2 d0 d1 d3 => l_ch7 (by decide +kernel) (fun lv h5 F V M e0 => ?_) 41 0 lv4 h2 F2 _ x3 rfl M2 q3 d0 d1 d3)
  have bF := M.fi (by decide) (k := 3) (lo := 0) (hi := 12) rfl rfl rfl
  have eA : h_r h5 m 0 = h_r h m 0 := (M.2.2 0 (by decide +kernel)).1
  have eL : (h_k h5 (h_r h m 0)).2 = (h_k h (h_r h m 0)).2 := M.len (K := 0) (by decide) (by decide +kernel)
  have eF : (h_i h5 m 3).toInt = F 3 := M.2.1 3
  have FF : FQ ρ ρ [(25, 3), (27, 1001)] h h5 := M.1.2.2.fq
  have n1 : t_nd ρ h5 := c_PTx 1 ρ ρ _ h h5 ht FF (by decide +kernel) t1
  have n2 : t_rm ρ h5 := c_PTx 2 ρ ρ _ h h5 ht FF (by decide +kernel) t2
  have pw := z_pow (n := (F 3).toNat)
  have pl : (2 : Int) ^ (F 3).toNat ≤ (2 : Int) ^ 12 := z_powL (by omega)
  refine s_ch59 M e0 (fun z1 a1 b1 c1 a3 b3 c70 => ?_) (fun z1 a1 b1 c1 a3 b3 c70 => ?_)
  · refine c_ch85 M.1.1 hm e0 (fun h' V' M' => g ρ _ h5 h' _ V' _ (FF.mono (by decide +kernel)) M.1.1 M' n1 n2 ?_)
    show (2 : Int) ^ ((h_i h5 m 3).toInt).toNat ≤ ((h_k h5 (h_r h5 m 0)).2 : Int)
    rw [eA, eL, eF]
    omega
  · refine s_ch73 M e0 (fun x3 q3 a2 b2 => ?_)
    have hs : x3.toInt.toNat = 2 ^ (F 3).toNat := z_pn q3
    have ml : m < 16 + h_n h5 := (M.1.1.2 m (by rw [hm]; decide)).1
    have l16 : 16 < 16 + h_n h5 := n2.1.1.1
    have mS : m = r_S h5 := n2.1.2.2.2.2.2.2 m hm
    refine hI_newa (t := .int) rfl (by decide) (by omega) (by omega) rfl ?_
    have mk : (h_k (h_new h5 20 x3.toInt.toNat x3.toInt.toNat) m).1 = 6 := by
      rw [nw_k (by omega)]
      exact (t_spec M.1.1 (by decide) (rfl : c_sp[25]? = some _) hm).1
    refine hI_pr (o := m) rfl rfl (by decide +kernel) mk rfl ?_
    have T6 : TH c_sp (m_u ρ (16 + h_n h5) 26) (h_new h5 20 x3.toInt.toNat x3.toInt.toNat) := th_new (R := 26) (rs := ((20, (1, 4096)), (true, (true, [.inl (-2147483648, 2147483647)])))) M.1.1 (by decide) rfl ⟨by show 1 ≤ _; omega, by show _ ≤ 4096; omega⟩ (by decide)
    have Q6 : FQ ρ (m_u ρ (16 + h_n h5) 26) [(26, 1002), (1000, 1002)] h5 (h_new h5 20 x3.toInt.toNat x3.toInt.toNat) := fq_new M.1.1
    have hm1 : m_u ρ (16 + h_n h5) 26 m = 25 := by rw [m_uN _ _ _ _ (by omega)]; exact hm
    have T7 := s_srT (k := 0) (x := 16 + h_n h5) T6 (rfl : c_sp[25]? = some _) hm1 rfl (Or.inr ⟨by omega, by decide, m_uE _ _ _⟩)
    have Q7 : FQ (m_u ρ (16 + h_n h5) 26) (m_u ρ (16 + h_n h5) 26) [(25, 0)] (h_new h5 20 x3.toInt.toNat x3.toInt.toNat) (h_sr (h_new h5 20 x3.toInt.toNat x3.toInt.toNat) m 0 (16 + h_n h5)) := (FS.ofFR (s_srF hm1 (Or.inl (List.mem_singleton.mpr rfl)))).fq
    have Q8 : FQ ρ (m_u ρ (16 + h_n h5) 26) [(25, 0), (26, 1002), (1000, 1002)] h5 (h_sr (h_new h5 20 x3.toInt.toNat x3.toInt.toNat) m 0 (16 + h_n h5)) := (Q6.mono (by decide +kernel)).trans (Q7.mono (by decide +kernel))
    show HJ 158 85 lv [] (h_sr (h_new h5 20 x3.toInt.toNat x3.toInt.toNat) m 0 (16 + h_n h5)) Q
    generalize hh7 : h_sr (h_new h5 20 x3.toInt.toNat x3.toInt.toNat) m 0 (16 + h_n h5) = h7 at T7 Q7 Q8 ⊢
    have r0 : h_r h7 m 0 = 16 + h_n h5 := by
      rw [← hh7, s_srR, if_pos ⟨rfl, rfl⟩]
    have k0 : (h_k h7 (16 + h_n h5)).2 = x3.toInt.toNat := by
      rw [← hh7]
      show (h_k (h_new h5 20 x3.toInt.toNat x3.toInt.toNat) (16 + h_n h5)).2 = _
      rw [z_newk]
    have i3 : (h_i h7 m 3).toInt = F 3 := by
      rw [← hh7]
      show (h_i (h_new h5 20 x3.toInt.toNat x3.toInt.toNat) m 3).toInt = _
      rw [nw_i (by omega)]
      exact eF
    have eS7 : r_S h7 = m := by
      rw [mS]
      unfold r_S
      rw [← hh7, s_srR, if_neg (fun z => by have := z.2; omega), nw_r (by omega)]
    have en : h_n h7 = h_n h5 + 1 := by rw [← hh7]; rfl
    have ez : h_z h7 = h_z h5 + 2 ^ (F 3).toNat := by
      rw [← hs, ← hh7]
      rfl
    have rT5 : r_T h5 = (h_k h5 (h_r h5 m 0)).2 := by
      unfold r_T
      rw [← mS]
    have rT7 : r_T h7 = 2 ^ (F 3).toNat := by
      unfold r_T
      rw [eS7, r0, k0, hs]
    have h3 : (((2 : Nat) ^ (F 3).toNat : Nat) : Int) = (2 : Int) ^ (F 3).toNat := Int.natCast_pow 2 _
    rw [eA, eL] at rT5
    have n1' : t_nd (m_u ρ (16 + h_n h5) 26) h7 := c_PTx 1 _ _ _ h5 h7 M.1.1 Q8 (by decide +kernel) n1
    have n2' : t_rm (m_u ρ (16 + h_n h5) 26) h7 := rm_tab M.1.1 Q8 (by decide +kernel) en ez (by rw [← mS, r0, en]; omega) rT7 (by rw [rT5]; omega) (by rw [rT5]; omega) n2
    refine c_ch85 T7 hm1 e0 (fun h' V' M' => g _ _ h7 h' _ V' _ ((FF.mono (by decide +kernel)).trans (Q8.mono (by decide +kernel))) T7 M' n1' n2' ?_)
    show (2 : Int) ^ ((h_i h7 m 3).toInt).toNat ≤ ((h_k h7 (h_r h7 m 0)).2 : Int)
    rw [i3, r0, k0]
    omega
theorem l_fk8 {nd : Nat} {p : Int64} {T : Int} (hnd : ρ nd = 39) (t1 : ∀ (h : MH) (V : Nat → Nat → Int), MX 25 W ρ m A h0 h F V G → t_nd ρ h) (hw : d_sub [(26, 1001)] W = true) (hl : ((h_k h0 (A 0)).2 : Int) = T) (tl : (2 : Int) ^ (F 3).toNat ≤ T) (g : ∀ (lv : List (Nat × Value)) (h : MH) (V : Nat → Nat → Int), MX 25 W ρ m A h0 h F V G → m_lk lv 0 = some (.ref m) → HJ 157 51 lv [] h Q) : ∀ (d i : Nat) (lv : List (Nat × Value)) (h : MH) (V : Nat → Nat → Int) (xi : Int32), i + d = 15120 → MX 25 W ρ m A h0 h F V G → xi.toInt = (i : Int) → m_lk lv 0 = some (.ref m) → m_lk lv 1 = some (.ref nd) → m_lk lv 2 = some (.long p) → m_lk lv 4 = some (.int xi) → HJ 157 8 lv [] h Q := by
  intro d
  induction d with
  | zero =>
    intro i lv h V xi hd M qi e0 e1 e2 e4
    exact s_fk8 M e0 e1 hnd e2 e4 qi (fun _ _ _ _ => g lv h V M e0) (by intros; omega)
  | succ d ih =>
    intro i lv h V xi hd M qi e0 e1 e2 e4
    exact s_fk8 M e0 e1 hnd e2 e4 qi (fun _ _ _ _ => g lv h V M e0) (fun z _ _ c => c_hold99 M.1.1 hnd (t1 h V M) (fun y => s_fk24 M e0 e1 hnd e2 e4 qi (c_packed M (fun x b0 b1 => s_fk27 M e0 e1 hnd e2 e4 qi rfl b0 (by omega) (by omega) (by omega) hl hw
      (fun x2 q2 lv2 d0 d1 d2 d4 _ => ih (i + 1) lv2 h V x2 (by omega) M (by omega) d0 d1 d2 d4)
      (fun z3 _ _ z5 _ _ h6 V6 x7 q7 lv7 M6 d0 d1 d2 d4 _ => ih (i + 1) lv7 h6 V6 x7 (by omega) M6 (by omega) d0 d1 d2 d4)))))
theorem l_fk72 {T : Int} {a : Int} {xa : Int32} (M : MX 25 W ρ m A h0 h F V G) (hl : ((h_k h0 (A 0)).2 : Int) = T) (tl : (2 : Int) ^ (F 3).toNat ≤ T) (qa : xa.toInt = a) (a1 : a ≤ 4096) (ak : a < (2 : Int) ^ (F 3).toNat) (g : ∀ y : Int64, Q (some (.long y)) h) : ∀ (d j : Nat) (lv : List (Nat × Value)) (xb xj : Int32), j + d = 4096 → xj.toInt = (j : Int) → m_lk lv 0 = some (.ref m) → m_lk lv 4 = some (.int xa) → m_lk lv 5 = some (.int xb) → m_lk lv 6 = some (.int xj) → HJ 157 72 lv [] h Q := by
  have b := M.fi (by decide) (k := 3) (lo := 0) (hi := 12) rfl rfl rfl
  have fin : ∀ (lv : List (Nat × Value)) (xb : Int32), m_lk lv 0 = some (.ref m) → m_lk lv 5 = some (.int xb) → HJ 157 115 lv [] h Q := fun lv xb e0 e5 => s_fk115 M e0 e5 rfl (c_unp M (fun y => s_fk121 (g y)))
  intro d
  induction d with
  | zero =>
    intro j lv xb xj hd qj e0 e4 e5 e6
    exact s_fk72 M e0 e4 qa e5 rfl e6 qj (by omega) a1 (by omega) ak tl hl (fun _ => fin lv xb e0 e5) (by intros; omega) (by intros; omega)
  | succ d ih =>
    intro j lv xb xj hd qj e0 e4 e5 e6
    exact s_fk72 M e0 e4 qa e5 rfl e6 qj (by omega) a1 (by omega) ak tl hl (fun _ => fin lv xb e0 e5) (fun z2 _ _ x3 q3 lv3 d0 d4 d5 d6 _ _ => ih (j + 1) lv3 xb x3 (by omega) (by omega) d0 d4 d5 d6)
      (fun z2 _ _ _ _ => c_ib (fun y => s_fk97 M e0 e4 qa e5 rfl e6 qj (y := y.toInt) rfl (c_ib (fun y2 => s_fk102 M e0 e4 qa e5 rfl e6 qj rfl (z := y2.toInt) rfl (by omega) (by omega)
        (fun x2 q2 lv2 d0 d4 d5 d6 _ => ih (j + 1) lv2 xb x2 (by omega) (by omega) d0 d4 d5 d6)
        (fun x2 q2 lv2 d0 d4 d5 d6 _ => ih (j + 1) lv2 xj x2 (by omega) (by omega) d0 d4 d5 d6)))))
theorem l_fewK {ρ' A' : Nat → Nat} {h1 h2 : MH} {T : Int} (ht1 : TH c_sp ρ' h1) (n1 : t_nd ρ' h1) (n2 : t_rm ρ' h1) (hT : ((h_k h1 (A' 0)).2 : Int) = T) (tl : (2 : Int) ^ (F 3).toNat ≤ T) (M : MX 25 [(26, 1001)] ρ' m A' h1 h2 F V G) : (∀ (h : MH) (V : Nat → Nat → Int), MX 25 [(26, 1001)] ρ' m A' h1 h F V G → t_nd ρ' h ∧ t_rm ρ' h) ∧ (0 ≤ F 3 ∧ F 3 ≤ 12) ∧ T ≤ 4096 ∧ (2 : Int) ^ (F 3).toNat ≤ 4096 ∧ (1 : Int) ≤ (2 : Int) ^ (F 3).toNat := by
  have bF := M.fi (by decide) (k := 3) (lo := 0) (hi := 12) rfl rfl rfl
  have pl : (2 : Int) ^ (F 3).toNat ≤ (2 : Int) ^ 12 := z_powL (by omega)
  have a0 := MX.ar M (by decide) (K := 0) (by decide +kernel)
  have a1 : ρ' (A' 0) = 26 := a0.1
  have l1 := (t_spec M.1.1 (by decide) (rfl : c_sp[26]? = some _) a1).2.1.2
  have l2 := M.len (K := 0) (by decide) (by decide +kernel)
  have l1 : (h_k h2 (A' 0)).2 ≤ 4096 := l1
  exact ⟨fun h V M3 => ⟨c_PTx 1 ρ' ρ' [(26, 1001)] h1 h ht1 M3.1.2.2.fq (by decide +kernel) n1, c_PTx 2 ρ' ρ' [(26, 1001)] h1 h ht1 M3.1.2.2.fq (by decide +kernel) n2⟩, bF, by omega, by omega, z_pow⟩
theorem c_fewK {nd : Nat} {p : Int64} (ht : TH c_sp ρ h) (hm : ρ m = 25) (hnd : ρ nd = 39) (t1 : t_nd ρ h) (t2 : t_rm ρ h) (e0 : m_lk lv 0 = some (.ref m)) (e1 : m_lk lv 1 = some (.ref nd)) (e2 : m_lk lv 2 = some (.long p)) (g : ∀ (ρ' : Nat → Nat) (h1 h' : MH) (y : Int64), FQ ρ ρ' w_ch h h1 → FS ρ' [(26, 1001)] h1 h' → TH c_sp ρ' h' → t_nd ρ' h' → t_rm ρ' h' → Q (some (.long y)) h') : HJ 157 0 lv [] h Q := by
  refine s_fk0 (MX.start (W := []) ht hm) e0 e1 hnd e2 (c_choose ht hm t1 t2 (fun ρ' A' h1 h2 F V G f ht1 M n1 n2 tl => ?_))
  have hnd' : ρ' nd = 39 := (f.2.1 nd (by rw [hnd]; decide)).trans hnd
  have hw : d_sub [(26, 1001)] [(26, 1001)] = true := by decide +kernel
  obtain ⟨K1, ⟨f0, f12⟩, T1, P1, P0⟩ := l_fewK ht1 n1 n2 rfl tl M
  refine s_fk5 M e0 e1 hnd' e2 (fun x1 q1 lv2 d0 d1 d2 d4 => l_fk8 hnd' (fun h V M3 => (K1 h V M3).1) hw rfl tl (fun lv3 h3 V3 M3 c0 => ?_) 15120 0 lv2 h2 V x1 rfl M q1 d0 d1 d2 d4)
  refine s_fk51 M3 c0 (c_sumB M3 hw rfl tl T1 (fun h4 V4 M4 => s_fk55 M4 c0 P1 P0 (fun x5 q5 x8 q8 lv9 k0 k4 k5 k6 _ _ => ?_)))
  exact l_fk72 M4 rfl tl q5 (by omega) (by omega) (fun y => g ρ' h1 h4 y f M4.1.2.2 M4.1.1 (K1 h4 V4 M4).1 (K1 h4 V4 M4).2) 4096 0 lv9 x5 x8 rfl q8 k0 k4 k5 k6
theorem l_gv8 {nd : Nat} {p : Int64} {T : Int} {xn : Int32} (hnd : ρ nd = 39) (t1 : ∀ (h : MH) (V : Nat → Nat → Int), MX 25 W ρ m A h0 h F V G → t_nd ρ h) (hw : d_sub [(26, 1001)] W = true) (hl : ((h_k h0 (A 0)).2 : Int) = T) (tl : (2 : Int) ^ (F 3).toNat ≤ T) (g : ∀ (lv : List (Nat × Value)) (h : MH) (V : Nat → Nat → Int), MX 25 W ρ m A h0 h F V G → m_lk lv 0 = some (.ref m) → m_lk lv 4 = some (.int xn) → HJ 163 59 lv [] h Q) : ∀ (d i : Nat) (lv : List (Nat × Value)) (h : MH) (V : Nat → Nat → Int) (xi : Int32), i + d = 15120 → MX 25 W ρ m A h0 h F V G → xi.toInt = (i : Int) → m_lk lv 0 = some (.ref m) → m_lk lv 1 = some (.ref nd) → m_lk lv 2 = some (.long p) → m_lk lv 4 = some (.int xn) → m_lk lv 5 = some (.int xi) → HJ 163 8 lv [] h Q := by
  intro d
  induction d with
  | zero =>
    intro i lv h V xi hd M qi e0 e1 e2 e4 e5
    exact s_gv8 M e0 e1 hnd e2 e4 rfl e5 qi (fun _ _ _ _ => g lv h V M e0 e4) (by intros; omega)
  | succ d ih =>
    intro i lv h V xi hd M qi e0 e1 e2 e4 e5
    exact s_gv8 M e0 e1 hnd e2 e4 rfl e5 qi (fun _ _ _ _ => g lv h V M e0 e4) (fun z _ _ c => c_hold99 M.1.1 hnd (t1 h V M) (fun y => s_gv23 M e0 e1 hnd e2 e4 rfl e5 qi (by omega) (by omega)
      (fun x2 q2 lv2 d0 d1 d2 d4 d5 _ => ih (i + 1) lv2 h V x2 (by omega) M (by omega) d0 d1 d2 d4 d5)
      (fun lv1 d0 d1 d2 d4 d5 _ => c_packed M (fun x b0 b1 => s_gv48 M d0 d1 hnd d2 d4 rfl d5 qi rfl b0 (by omega) (by omega) (by omega) hl hw
        (fun z1 _ _ z3 _ _ h4 V4 x5 q5 lv5 M4 k0 k1 k2 k4 k5 => ih (i + 1) lv5 h4 V4 x5 (by omega) M4 (by omega) k0 k1 k2 k4 k5)))))
theorem l_gv69 {T : Int} {xn : Int32} (M : MX 25 W ρ m A h0 h F V G) (hl : ((h_k h0 (A 0)).2 : Int) = T) (tl : (2 : Int) ^ (F 3).toNat ≤ T) (k1 : (2 : Int) ^ (F 3).toNat ≤ 4096) (g : ∀ y : Int64, Q (some (.long y)) h) : ∀ (d j : Nat) (lv : List (Nat × Value)) (xb xj : Int32), j + d = 4096 → xj.toInt = (j : Int) → m_lk lv 0 = some (.ref m) → m_lk lv 4 = some (.int xn) → m_lk lv 5 = some (.int xb) → m_lk lv 6 = some (.int xj) → HJ 163 69 lv [] h Q := by
  have fin : ∀ (lv : List (Nat × Value)) (xb : Int32), m_lk lv 0 = some (.ref m) → m_lk lv 5 = some (.int xb) → HJ 163 121 lv [] h Q := fun lv xb e0 e5 => s_gv121 M e0 e5 rfl (fun _ => c_unp M (fun y => s_gv139 (g y))) (fun _ => g _)
  intro d
  induction d with
  | zero =>
    intro j lv xb xj hd qj e0 e4 e5 e6
    exact s_gv69 M e0 e4 rfl e5 rfl e6 qj (by omega) k1 tl hl (fun _ _ _ => fin lv xb e0 e5) (by intros; omega) (by intros; omega) (by intros; omega)
  | succ d ih =>
    intro j lv xb xj hd qj e0 e4 e5 e6
    exact s_gv69 M e0 e4 rfl e5 rfl e6 qj (by omega) k1 tl hl (fun _ _ _ => fin lv xb e0 e5) (fun z4 _ _ x3 q3 lv3 d0 d4 d5 d6 _ _ _ _ => ih (j + 1) lv3 xb x3 (by omega) (by omega) d0 d4 d5 d6)
      (fun z4 _ _ x3 q3 lv3 d0 d4 d5 d6 _ _ _ _ _ => ih (j + 1) lv3 xj x3 (by omega) (by omega) d0 d4 d5 d6)
      (fun z4 _ _ _ _ _ _ _ => c_ib (fun y => s_gv103 M e0 e4 rfl e5 rfl e6 qj (y := y.toInt) rfl (c_ib (fun y2 => s_gv108 M e0 e4 rfl e5 rfl e6 qj rfl (z := y2.toInt) rfl (by omega) (by omega)
        (fun x2 q2 lv2 d0 d4 d5 d6 _ => ih (j + 1) lv2 xb x2 (by omega) (by omega) d0 d4 d5 d6)
        (fun x2 q2 lv2 d0 d4 d5 d6 _ => ih (j + 1) lv2 xj x2 (by omega) (by omega) d0 d4 d5 d6)))))
theorem c_fewG {nd : Nat} {p : Int64} {xn : Int32} (ht : TH c_sp ρ h) (hm : ρ m = 25) (hnd : ρ nd = 39) (t1 : t_nd ρ h) (t2 : t_rm ρ h) (e0 : m_lk lv 0 = some (.ref m)) (e1 : m_lk lv 1 = some (.ref nd)) (e2 : m_lk lv 2 = some (.long p)) (e4 : m_lk lv 4 = some (.int xn)) (g : ∀ (ρ' : Nat → Nat) (h1 h' : MH) (y : Int64), FQ ρ ρ' w_ch h h1 → FS ρ' [(26, 1001)] h1 h' → TH c_sp ρ' h' → t_nd ρ' h' → t_rm ρ' h' → Q (some (.long y)) h') : HJ 163 0 lv [] h Q := by
  refine s_gv0 (MX.start (W := []) ht hm) e0 e1 hnd e2 (c_choose ht hm t1 t2 (fun ρ' A' h1 h2 F V G f ht1 M n1 n2 tl => ?_))
  have hnd' : ρ' nd = 39 := (f.2.1 nd (by rw [hnd]; decide)).trans hnd
  have hw : d_sub [(26, 1001)] [(26, 1001)] = true := by decide +kernel
  obtain ⟨K1, ⟨f0, f12⟩, T1, P1, P0⟩ := l_fewK ht1 n1 n2 rfl tl M
  refine s_gv5 M e0 e1 hnd' e2 e4 rfl (fun x1 q1 lv2 d0 d1 d2 d4 d5 => l_gv8 hnd' (fun h V M3 => (K1 h V M3).1) hw rfl tl (fun lv3 h3 V3 M3 c0 c4 => ?_) 15120 0 lv2 h2 V x1 rfl M q1 d0 d1 d2 d4 d5)
  refine s_gv59 M3 c0 c4 rfl (c_sumB M3 hw rfl tl T1 (fun h4 V4 M4 => s_gv63 M4 c0 c4 rfl (fun x1 q1 x3 q3 lv4 k0 k4 k5 k6 => ?_)))
  exact l_gv69 M4 rfl tl P1 (fun y => g ρ' h1 h4 y f M4.1.2.2 M4.1.1 (K1 h4 V4 M4).1 (K1 h4 V4 M4).2) 4096 0 lv4 x1 x3 rfl q3 k0 k4 k5 k6
end
