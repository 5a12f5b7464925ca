-- THE REFERENCE'S READER: ITS TOKENS
section
variable {i pc pc' : Nat} {lv : List (Nat × Value)} {st : List Value} {Q : Option Value → MH → Prop} {R : Nat} {W W2 : List (Nat × Nat)} {ρ : Nat → Nat} {m : Nat} {A : Nat → Nat} {h0 h h1 h2 : MH} {F F1 F2 : Nat → Int} {V V1 V2 : Nat → Nat → Int} {G G1 G2 : Nat → Nat → Int64}
theorem hM_gl {idx nest c k : Nat} {rs : RS} {w : Int64} (M : MX R W ρ m A h0 h F V G) (hR : R ≠ 0) (hs : c_sp[R]? = some rs) (hc : rs.1.1 = c + 1) (a : m_at i pc = some (.getfield idx, 3)) (hf : m_fl i idx = some (nest, c, k)) (ht : (m_ty c k).1 = 1) (hw : h_l h m k = w) (hp : pc + 3 = pc') (g : HJ i pc' lv (.long w :: st) h Q) : HJ i pc lv (.ref m :: st) h Q := by
  subst hp
  refine HJ.ex a (Or.inl rfl) ?_ g
  show e_get i idx pc lv _ h = _
  unfold e_get
  rw [hf]
  dsimp only
  rw [if_pos ((t_spec M.1.1 hR hs M.1.2.1).1.trans hc), ht]
  rw [hw]
  rfl
theorem hM_pl {idx nest c k : Nat} {rs : RS} {x : Int64} (M : MX R W ρ m A h0 h F V G) (hR : R ≠ 0) (ok : rg_okb R = true) (hs : c_sp[R]? = some rs) (hc : rs.1.1 = c + 1) (a : m_at i pc = some (.putfield idx, 3)) (hf : m_fl i idx = some (nest, c, k)) (ht : c < 10 ∧ k < m_nf c ∧ m_ty c k = (1, false)) (hw : d_sub [(R, k)] W = true) (hp : pc + 3 = pc') (g : ∀ h' : MH, h_l h' m k = x → MX R W ρ m A h0 h' F V G → HJ i pc' lv st h' Q) : HJ i pc lv (.long x :: .ref m :: st) h Q := by
  subst hp
  refine HJ.ex (h' := h_sl h m k x) a (Or.inl rfl) ?_ (g _ ?_ ?_)
  · show e_put i idx pc lv _ h = _
    unfold e_put
    rw [hf]
    dsimp only
    rw [if_pos ⟨(t_spec M.1.1 hR hs M.1.2.1).1.trans hc, ht.1, ht.2.1, ht.2.2⟩]
    rfl
  · rw [sl_I, if_pos ⟨rfl, rfl⟩]
  · refine ⟨⟨sl_T M.1.1, M.1.2.1, M.1.2.2.trans (FS.mono hw (FS.ofFR (sl_F M.1.2.1 (Or.inl (List.mem_singleton.mpr rfl)))))⟩, M.2.1, fun K hK => ⟨(M.2.2 K hK).1, fun j => ⟨((M.2.2 K hK).2 j).1, ?_⟩⟩⟩
    rw [sl_I, if_neg (fun z => ?_)]
    · exact ((M.2.2 K hK).2 j).2
    · have := (M.ar hR hK).1
      rw [z.1, M.1.2.1] at this
      exact rg_self ok hK this.symm
end
section
variable {lv : List (Nat × Value)} {Q : Option Value → MH → Prop} {W : List (Nat × Nat)} {ρ : Nat → Nat} {m : Nat} {A : Nat → Nat} {h0 h : MH} {F : Nat → Int} {V : Nat → Nat → Int} {G : Nat → Nat → Int64}
theorem s_see (M : MX 49 W ρ m A h0 h F V G) (e0 : m_lk lv 0 = some (.ref m)) 
    (g0 : ∀ x3 : Int32, x3.toInt = (-1) → 0 ≤ F 7 → F 7 ≤ 600 → 0 ≤ F 8 → F 8 ≤ 600 → F 7 ≥ F 8 → Q (some (.int x3)) h)
    (g1 : ∀ x7 : Int32, x7.toInt = (V 1 (F 7).toNat) % 256 → 0 ≤ F 7 → F 7 ≤ 600 → 0 ≤ F 8 → F 8 ≤ 600 → F 7 < F 8 → (-128) ≤ V 1 (F 7).toNat → V 1 (F 7).toNat ≤ 127 → Q (some (.int x7)) h)
    : HJ 191 0 lv [] h Q := by
  refine hI_al (k := 0) rfl e0 rfl ?_ -- 0
  refine hM_gi M (by decide) rfl rfl rfl (k := 7) (c := 9) (lo := 0) (hi := 600) rfl rfl rfl rfl rfl (fun x1 q1 a1 b1 => ?_) -- 1
  refine hI_al (k := 0) rfl e0 rfl ?_ -- 4
  refine hM_gi M (by decide) rfl rfl rfl (k := 8) (c := 9) (lo := 0) (hi := 600) rfl rfl rfl rfl rfl (fun x2 q2 a2 b2 => ?_) -- 5
  refine hM_cge (off := 19) (t := 27) rfl q1 q2 (by decide) rfl (fun c8 => ?_) (fun c8 => ?_) -- 8
  · refine hM_ic (n := (-1)) rfl (by decide) rfl (fun x3 q3 => ?_) -- 27
    refine hI_ri rfl rfl ?_ -- 28
    exact g0 x3 q3 a1 b1 a2 b2 c8
  · refine hI_al (k := 0) rfl e0 rfl ?_ -- 11
    refine hM_ga M (by decide) rfl rfl (k := 1) (c := 9) rfl rfl rfl (by decide +kernel) rfl ?_ -- 12
    refine hI_al (k := 0) rfl e0 rfl ?_ -- 15
    refine hM_gi M (by decide) rfl rfl rfl (k := 7) (c := 9) (lo := 0) (hi := 600) rfl rfl rfl rfl rfl (fun x4 q4 a4 b4 => ?_) -- 16
    refine hM_ba M (by decide) (K := 1) (R2 := 50) (L := 2400) (H := 2400) (lo := (-128)) (hi := 127) rfl (by decide) rfl rfl (Or.inl rfl) (fun _ => rfl) rfl q4 (by omega) (by omega) rfl (fun x5 q5 a5 b5 => ?_) -- 19
    refine hM_sp (n := 255) rfl (by decide) rfl (fun x6 q6 => ?_) -- 20
    refine hM_iand255 rfl q5 q6 rfl (fun x7 q7 => ?_) -- 23
    refine hI_go (pc' := 28) (off := 4) rfl (by decide) ?_ -- 24
    refine hI_ri rfl rfl ?_ -- 28
    exact g1 x7 q7 a1 b1 a2 b2 c8 a5 b5
theorem s_tk0 (M : MX 49 W ρ m A h0 h F V G) (e0 : m_lk lv 0 = some (.ref m)) 
    (g0 : HJ 191 0 (lv_args 0 [.ref m]) [] h (fun v h' => HJ 190 4 lv (v.toList ++ []) h' Q))
    : HJ 190 0 lv [] h Q := by
  refine hI_al (k := 0) rfl e0 rfl ?_ -- 0
  refine hM_iv M (by decide) rfl rfl (by decide) (as := []) (r := []) rfl rfl (by decide +kernel) rfl (by decide +kernel) rfl rfl rfl rfl rfl ?_ -- 1
  exact g0 
theorem s_tk4 {z : Int} (M : MX 49 W ρ m A h0 h F V G) (e0 : m_lk lv 0 = some (.ref m)) {sx0 : Int32} (sq0 : sx0.toInt = z) (i1 : z = 10 → F 7 ≤ 599)(hw : d_sub [(49, 7)] W = true)
    (g0 : ∀ h5 : MH, ∀ F5 : Nat → Int, F5 = m_u F 7 ((F 7) + 1) → MX 49 W ρ m A h0 h5 F5 V G → z = 10 → 0 ≤ F 7 → F 7 ≤ 600 → HJ 190 0 lv [] h5 Q)
    (g1 : z ≠ 10 → HJ 191 0 (lv_args 0 [.ref m]) [] h (fun v h' => HJ 190 13 lv (v.toList ++ []) h' Q))
    : HJ 190 4 lv [.int sx0] h Q := by
  refine hM_bp (n := 10) rfl (by decide) rfl (fun x1 q1 => ?_) -- 4
  refine hM_ceq (off := 12) (t := 18) rfl sq0 q1 (by decide) rfl (fun c6 => ?_) (fun c6 => ?_) -- 6
  · refine hI_al (k := 0) rfl e0 rfl ?_ -- 18
    refine hI_dup rfl rfl rfl ?_ -- 19
    refine hM_gi M (by decide) rfl rfl rfl (k := 7) (c := 9) (lo := 0) (hi := 600) rfl rfl rfl rfl rfl (fun x2 q2 a2 b2 => ?_) -- 20
    refine hM_ic (n := 1) rfl (by decide) rfl (fun x3 q3 => ?_) -- 23
    refine hM_add rfl q2 q3 (by omega) (by omega) rfl (fun x4 q4 => ?_) -- 24
    refine hM_pi M (by decide) ok_49 rfl rfl (k := 7) (c := 9) (lo := 0) (hi := 600) rfl rfl ⟨by decide, by decide +kernel, rfl⟩ rfl (d_subm hw (by decide +kernel)) q4 (by omega) (by omega) rfl (fun h5 F5 f5 M5 => ?_) -- 25
    refine hI_go (pc' := 0) (off := (-28)) rfl (by decide) ?_ -- 28
    exact g0 h5 F5 f5 M5 c6 a2 b2
  · refine hI_al (k := 0) rfl e0 rfl ?_ -- 9
    refine hM_iv M (by decide) rfl rfl (by decide) (as := []) (r := []) rfl rfl (by decide +kernel) rfl (by decide +kernel) rfl rfl rfl rfl rfl ?_ -- 10
    exact g1 c6
theorem s_tk13 {z : Int} (M : MX 49 W ρ m A h0 h F V G) (e0 : m_lk lv 0 = some (.ref m)) {sx0 : Int32} (sq0 : sx0.toInt = z) (i1 : z = 32 → F 7 ≤ 599)(hw : d_sub [(49, 7)] W = true)
    (g0 : z ≠ 32 → HJ 190 31 lv [] h Q)
    (g1 : ∀ h5 : MH, ∀ F5 : Nat → Int, F5 = m_u F 7 ((F 7) + 1) → MX 49 W ρ m A h0 h5 F5 V G → z = 32 → 0 ≤ F 7 → F 7 ≤ 600 → HJ 190 0 lv [] h5 Q)
    : HJ 190 13 lv [.int sx0] h Q := by
  refine hM_bp (n := 32) rfl (by decide) rfl (fun x1 q1 => ?_) -- 13
  refine hM_cne (off := 16) (t := 31) rfl sq0 q1 (by decide) rfl (fun c15 => ?_) (fun c15 => ?_) -- 15
  · exact g0 c15
  · refine hI_al (k := 0) rfl e0 rfl ?_ -- 18
    refine hI_dup rfl rfl rfl ?_ -- 19
    refine hM_gi M (by decide) rfl rfl rfl (k := 7) (c := 9) (lo := 0) (hi := 600) rfl rfl rfl rfl rfl (fun x2 q2 a2 b2 => ?_) -- 20
    refine hM_ic (n := 1) rfl (by decide) rfl (fun x3 q3 => ?_) -- 23
    refine hM_add rfl q2 q3 (by omega) (by omega) rfl (fun x4 q4 => ?_) -- 24
    refine hM_pi M (by decide) ok_49 rfl rfl (k := 7) (c := 9) (lo := 0) (hi := 600) rfl rfl ⟨by decide, by decide +kernel, rfl⟩ rfl (d_subm hw (by decide +kernel)) q4 (by omega) (by omega) rfl (fun h5 F5 f5 M5 => ?_) -- 25
    refine hI_go (pc' := 0) (off := (-28)) rfl (by decide) ?_ -- 28
    exact g1 h5 F5 f5 M5 c15 a2 b2
theorem s_tk31 (M : MX 49 W ρ m A h0 h F V G) (e0 : m_lk lv 0 = some (.ref m)) (hw : d_sub [(49, 9)] W = true)
    (g0 : ∀ h2 : MH, ∀ F2 : Nat → Int, F2 = m_u F 9 (F 7) → MX 49 W ρ m A h0 h2 F2 V G → 0 ≤ F 7 → F 7 ≤ 600 → HJ 191 0 (lv_args 0 [.ref m]) [] h2 (fun v h' => HJ 190 43 lv (v.toList ++ []) h' Q))
    : HJ 190 31 lv [] h Q := by
  refine hI_al (k := 0) rfl e0 rfl ?_ -- 31
  refine hI_al (k := 0) rfl e0 rfl ?_ -- 32
  refine hM_gi M (by decide) rfl rfl rfl (k := 7) (c := 9) (lo := 0) (hi := 600) rfl rfl rfl rfl rfl (fun x1 q1 a1 b1 => ?_) -- 33
  refine hM_pi M (by decide) ok_49 rfl rfl (k := 9) (c := 9) (lo := 0) (hi := 600) rfl rfl ⟨by decide, by decide +kernel, rfl⟩ rfl (d_subm hw (by decide +kernel)) q1 (by omega) (by omega) rfl (fun h2 F2 f2 M2 => ?_) -- 36
  refine hI_al (k := 0) rfl e0 rfl ?_ -- 39
  refine hM_iv M2 (by decide) rfl rfl (by decide) (as := []) (r := []) rfl rfl (by decide +kernel) rfl (by decide +kernel) rfl rfl rfl rfl rfl ?_ -- 40
  exact g0 h2 F2 f2 M2 a1 b1
theorem s_tk43 {z : Int} (M : MX 49 W ρ m A h0 h F V G) (e0 : m_lk lv 0 = some (.ref m)) {sx0 : Int32} (sq0 : sx0.toInt = z) 
    (g0 : ∀ lv1 : List (Nat × Value), m_lk lv1 0 = some (.ref m) → m_lk lv1 1 = some (.int sx0) → HJ 190 44 lv1 [] h Q)
    : HJ 190 43 lv [.int sx0] h Q := by
  refine hM_si (k := 1) rfl (by decide +kernel) rfl (fun lv1 e1_1 u1 => ?_) -- 43
  have e1_0 := u1 0 _ (by decide) (Or.inl rfl) e0
  exact g0 lv1 e1_0 e1_1
theorem s_tk44 {c : Int} (M : MX 49 W ρ m A h0 h F V G) (e0 : m_lk lv 0 = some (.ref m)) {lx1 : Int32} (e1 : m_lk lv 1 = some (.int lx1)) (lq1 : lx1.toInt = c) (hw : d_sub [(49, 12), (49, 10)] W = true)
    (g0 : ∀ h1 : MH, h_l h1 m 12 = (Int64.ofNat (0 : Fin 2).val) → ∀ x2 : Int32, x2.toInt = 0 → ∀ x4 : Int32, x4.toInt = 97 → ∀ x5 : Int32, x5.toInt = 122 → ∀ lv3 : List (Nat × Value), MX 49 W ρ m A h0 h1 F V G → m_lk lv3 0 = some (.ref m) → m_lk lv3 1 = some (.int lx1) → m_lk lv3 2 = some (.int x2) → c ≥ 0 → HJ 186 0 (lv_args 0 [.int lx1, .int x4, .int x5]) [] h1 (fun v h' => HJ 190 71 lv3 (v.toList ++ []) h' Q))
    (g1 : ∀ h1 : MH, h_l h1 m 12 = (Int64.ofNat (0 : Fin 2).val) → ∀ h7 : MH, ∀ F7 : Nat → Int, F7 = m_u F 10 (0) → ∀ lv3 : List (Nat × Value), MX 49 W ρ m A h0 h7 F7 V G → c < 0 → Q none h7)
    : HJ 190 44 lv [] h Q := by
  refine hI_al (k := 0) rfl e0 rfl ?_ -- 44
  refine hI_lc (n := 0) rfl rfl ?_ -- 45
  refine hM_pl M (by decide) ok_49 rfl rfl (k := 12) (c := 9) rfl rfl ⟨by decide, by decide +kernel, rfl⟩ (d_subm hw (by decide +kernel)) rfl (fun h1 y1 M1 => ?_) -- 46
  refine hM_ic (n := 0) rfl (by decide) rfl (fun x2 q2 => ?_) -- 49
  refine hM_si (k := 2) rfl (by decide +kernel) rfl (fun lv3 e3_2 u3 => ?_) -- 50
  have e3_0 := u3 0 _ (by decide) (Or.inl rfl) e0
  have e3_1 := u3 1 _ (by decide) (Or.inl rfl) e1
  refine hI_il (k := 1) rfl e3_1 rfl ?_ -- 51
  refine hM_zge (off := 11) (t := 63) rfl lq1 (by decide) rfl (fun c52 => ?_) (fun c52 => ?_) -- 52
  · refine hI_il (k := 1) rfl e3_1 rfl ?_ -- 63
    refine hM_bp (n := 97) rfl (by decide) rfl (fun x4 q4 => ?_) -- 64
    refine hM_bp (n := 122) rfl (by decide) rfl (fun x5 q5 => ?_) -- 66
    refine hM_is0 (as := [.int lx1, .int x4, .int x5]) (r := []) rfl rfl (by decide +kernel) rfl rfl rfl rfl rfl ?_ -- 68
    exact g0 h1 y1 x2 q2 x4 q4 x5 q5 lv3 M1 e3_0 e3_1 e3_2 c52
  · refine hI_al (k := 0) rfl e3_0 rfl ?_ -- 55
    refine hM_ic (n := 0) rfl (by decide) rfl (fun x6 q6 => ?_) -- 56
    refine hM_pi M1 (by decide) ok_49 rfl rfl (k := 10) (c := 9) (lo := (-2147483648)) (hi := 2147483647) rfl rfl ⟨by decide, by decide +kernel, rfl⟩ rfl (d_subm hw (by decide +kernel)) q6 (by omega) (by omega) rfl (fun h7 F7 f7 M7 => ?_) -- 57
    refine hI_go (pc' := 266) (off := 206) rfl (by decide) ?_ -- 60
    refine hI_rv rfl rfl ?_
    exact g1 h1 y1 h7 F7 f7 lv3 M7 c52
theorem s_tk71 {c k z : Int} (M : MX 49 W ρ m A h0 h F V G) (e0 : m_lk lv 0 = some (.ref m)) {lx1 : Int32} (e1 : m_lk lv 1 = some (.int lx1)) (lq1 : lx1.toInt = c) {lx2 : Int32} (e2 : m_lk lv 2 = some (.int lx2)) (lq2 : lx2.toInt = k) {sx0 : Int32} (sq0 : sx0.toInt = z) 
    (g0 : ∀ x1 : Int32, x1.toInt = 48 → ∀ x2 : Int32, x2.toInt = 57 → z = 0 → HJ 186 0 (lv_args 0 [.int lx1, .int x1, .int x2]) [] h (fun v h' => HJ 190 155 lv (v.toList ++ []) h' Q))
    (g1 : z ≠ 0 → HJ 190 74 lv [] h Q)
    : HJ 190 71 lv [.int sx0] h Q := by
  refine hM_zeq (off := 76) (t := 147) rfl sq0 (by decide) rfl (fun c71 => ?_) (fun c71 => ?_) -- 71
  · refine hI_il (k := 1) rfl e1 rfl ?_ -- 147
    refine hM_bp (n := 48) rfl (by decide) rfl (fun x1 q1 => ?_) -- 148
    refine hM_bp (n := 57) rfl (by decide) rfl (fun x2 q2 => ?_) -- 150
    refine hM_is0 (as := [.int lx1, .int x1, .int x2]) (r := []) rfl rfl (by decide +kernel) rfl rfl rfl rfl rfl ?_ -- 152
    exact g0 x1 q1 x2 q2 c71
  · exact g1 c71
theorem s_tk74 {c k : Int} (M : MX 49 W ρ m A h0 h F V G) (e0 : m_lk lv 0 = some (.ref m)) {lx1 : Int32} (e1 : m_lk lv 1 = some (.int lx1)) (lq1 : lx1.toInt = c) {lx2 : Int32} (e2 : m_lk lv 2 = some (.int lx2)) (lq2 : lx2.toInt = k) 
    (g0 : HJ 191 0 (lv_args 0 [.ref m]) [] h (fun v h' => HJ 190 78 lv (v.toList ++ []) h' Q))
    : HJ 190 74 lv [] h Q := by
  refine hI_al (k := 0) rfl e0 rfl ?_ -- 74
  refine hM_iv M (by decide) rfl rfl (by decide) (as := []) (r := []) rfl rfl (by decide +kernel) rfl (by decide +kernel) rfl rfl rfl rfl rfl ?_ -- 75
  exact g0 
theorem s_tk78 {c k y : Int} (M : MX 49 W ρ m A h0 h F V G) (e0 : m_lk lv 0 = some (.ref m)) {lx1 : Int32} (e1 : m_lk lv 1 = some (.int lx1)) (lq1 : lx1.toInt = c) {lx2 : Int32} (e2 : m_lk lv 2 = some (.int lx2)) (lq2 : lx2.toInt = k) {sx0 : Int32} (sq0 : sx0.toInt = y) 
    (g0 : ∀ x1 : Int32, x1.toInt = 97 → ∀ x2 : Int32, x2.toInt = 122 → HJ 186 0 (lv_args 0 [.int sx0, .int x1, .int x2]) [] h (fun v h' => HJ 190 85 lv (v.toList ++ []) h' Q))
    : HJ 190 78 lv [.int sx0] h Q := by
  refine hM_bp (n := 97) rfl (by decide) rfl (fun x1 q1 => ?_) -- 78
  refine hM_bp (n := 122) rfl (by decide) rfl (fun x2 q2 => ?_) -- 80
  refine hM_is0 (as := [.int sx0, .int x1, .int x2]) (r := []) rfl rfl (by decide +kernel) rfl rfl rfl rfl rfl ?_ -- 82
  exact g0 x1 q1 x2 q2
theorem s_tk85 {c k z : Int} {w : Int64} (M : MX 49 W ρ m A h0 h F V G) (e0 : m_lk lv 0 = some (.ref m)) {lx1 : Int32} (e1 : m_lk lv 1 = some (.int lx1)) (lq1 : lx1.toInt = c) {lx2 : Int32} (e2 : m_lk lv 2 = some (.int lx2)) (lq2 : lx2.toInt = k) {sx0 : Int32} (sq0 : sx0.toInt = z) (wl : h_l h m 12 = w)
    (g0 : z = 0 → HJ 190 121 lv [] h Q)
    (g1 : z ≠ 0 → HJ 191 0 (lv_args 0 [.ref m]) [] h (fun v h' => HJ 190 100 lv (v.toList ++ [.long (w <<< ((Int32.ofInt (8)).toInt64 &&& 63)), .ref m]) h' Q))
    : HJ 190 85 lv [.int sx0] h Q := by
  refine hM_zeq (off := 36) (t := 121) rfl sq0 (by decide) rfl (fun c85 => ?_) (fun c85 => ?_) -- 85
  · exact g0 c85
  · refine hI_al (k := 0) rfl e0 rfl ?_ -- 88
    refine hI_al (k := 0) rfl e0 rfl ?_ -- 89
    refine hM_gl M (by decide) rfl rfl (k := 12) (c := 9) rfl rfl rfl wl rfl ?_ -- 90
    refine hM_bp (n := 8) rfl (by decide) rfl (fun x1 q1 => ?_) -- 93
    refine hM_lshl rfl q1 rfl ?_ -- 95
    refine hI_al (k := 0) rfl e0 rfl ?_ -- 96
    refine hM_iv M (by decide) rfl rfl (by decide) (as := []) (r := [.long (w <<< ((Int32.ofInt (8)).toInt64 &&& 63)), .ref m]) rfl rfl (by decide +kernel) rfl (by decide +kernel) rfl rfl rfl rfl rfl ?_ -- 97
    exact g1 c85
theorem s_tk100 {c k y : Int} (M : MX 49 W ρ m A h0 h F V G) (e0 : m_lk lv 0 = some (.ref m)) {lx1 : Int32} (e1 : m_lk lv 1 = some (.int lx1)) (lq1 : lx1.toInt = c) {lx2 : Int32} (e2 : m_lk lv 2 = some (.int lx2)) (lq2 : lx2.toInt = k) {sx1 : Int64} {sx2 : Int32} (sq2 : sx2.toInt = y) (hw : d_sub [(49, 12)] W = true)
    (g0 : ∀ h1 : MH, h_l h1 m 12 = (sx1 ||| (Int32.ofInt (y)).toInt64) → MX 49 W ρ m A h0 h1 F V G → HJ 190 105 lv [] h1 Q)
    : HJ 190 100 lv [.int sx2, .long sx1, .ref m] h Q := by
  refine hM_i2l rfl sq2 rfl ?_ -- 100
  refine hI_lor rfl rfl ?_ -- 101
  refine hM_pl M (by decide) ok_49 rfl rfl (k := 12) (c := 9) rfl rfl ⟨by decide, by decide +kernel, rfl⟩ (d_subm hw (by decide +kernel)) rfl (fun h1 y1 M1 => ?_) -- 102
  exact g0 h1 y1 M1
theorem s_tk105 {c k : Int} (M : MX 49 W ρ m A h0 h F V G) (e0 : m_lk lv 0 = some (.ref m)) {lx1 : Int32} (e1 : m_lk lv 1 = some (.int lx1)) (lq1 : lx1.toInt = c) {lx2 : Int32} (e2 : m_lk lv 2 = some (.int lx2)) (lq2 : lx2.toInt = k) (i1 : F 7 ≤ 599) (k0 : 0 ≤ k) (k1 : k ≤ 600)(hw : d_sub [(49, 7)] W = true)
    (g0 : ∀ h4 : MH, ∀ F4 : Nat → Int, F4 = m_u F 7 ((F 7) + 1) → ∀ x5 : Int32, x5.toInt = k + 1 → ∀ lv5 : List (Nat × Value), MX 49 W ρ m A h0 h4 F4 V G → m_lk lv5 0 = some (.ref m) → m_lk lv5 1 = some (.int lx1) → m_lk lv5 2 = some (.int x5) → 0 ≤ F 7 → F 7 ≤ 600 → HJ 190 74 lv5 [] h4 Q)
    : HJ 190 105 lv [] h Q := by
  refine hI_al (k := 0) rfl e0 rfl ?_ -- 105
  refine hI_dup rfl rfl rfl ?_ -- 106
  refine hM_gi M (by decide) rfl rfl rfl (k := 7) (c := 9) (lo := 0) (hi := 600) rfl rfl rfl rfl rfl (fun x1 q1 a1 b1 => ?_) -- 107
  refine hM_ic (n := 1) rfl (by decide) rfl (fun x2 q2 => ?_) -- 110
  refine hM_add rfl q1 q2 (by omega) (by omega) rfl (fun x3 q3 => ?_) -- 111
  refine hM_pi M (by decide) ok_49 rfl rfl (k := 7) (c := 9) (lo := 0) (hi := 600) rfl rfl ⟨by decide, by decide +kernel, rfl⟩ rfl (d_subm hw (by decide +kernel)) q3 (by omega) (by omega) rfl (fun h4 F4 f4 M4 => ?_) -- 112
  refine hM_inc (k := 2) (z := 1) rfl e2 lq2 (by decide) (by omega) (by omega) (by decide +kernel) rfl (fun lv5 x5 q5 e5_2 u5 => ?_) -- 115
  have e5_0 := u5 0 _ (by decide) (Or.inl rfl) e0
  have e5_1 := u5 1 _ (by decide) (Or.inl rfl) e1
  refine hI_go (pc' := 74) (off := (-44)) rfl (by decide) ?_ -- 118
  exact g0 h4 F4 f4 x5 q5 lv5 M4 e5_0 e5_1 e5_2 a1 b1
theorem s_tk121 {c k : Int} {w : Int64} (M : MX 49 W ρ m A h0 h F V G) (e0 : m_lk lv 0 = some (.ref m)) {lx1 : Int32} (e1 : m_lk lv 1 = some (.int lx1)) (lq1 : lx1.toInt = c) {lx2 : Int32} (e2 : m_lk lv 2 = some (.int lx2)) (lq2 : lx2.toInt = k) (wl : h_l h m 12 = w)(hw : d_sub [(49, 12)] W = true)
    (g0 : ∀ h2 : MH, h_l h2 m 12 = w → MX 49 W ρ m A h0 h2 F V G → k ≤ 8 → HJ 190 139 lv [] h2 Q)
    (g1 : ∀ h3 : MH, h_l h3 m 12 = (Int64.ofNat (0 : Fin 2).val) → MX 49 W ρ m A h0 h3 F V G → k > 8 → HJ 190 139 lv [] h3 Q)
    : HJ 190 121 lv [] h Q := by
  refine hI_al (k := 0) rfl e0 rfl ?_ -- 121
  refine hI_il (k := 2) rfl e2 rfl ?_ -- 122
  refine hM_bp (n := 8) rfl (by decide) rfl (fun x1 q1 => ?_) -- 123
  refine hM_cle (off := 7) (t := 132) rfl lq2 q1 (by decide) rfl (fun c125 => ?_) (fun c125 => ?_) -- 125
  · refine hI_al (k := 0) rfl e0 rfl ?_ -- 132
    refine hM_gl M (by decide) rfl rfl (k := 12) (c := 9) rfl rfl rfl wl rfl ?_ -- 133
    refine hM_pl M (by decide) ok_49 rfl rfl (k := 12) (c := 9) rfl rfl ⟨by decide, by decide +kernel, rfl⟩ (d_subm hw (by decide +kernel)) rfl (fun h2 y2 M2 => ?_) -- 136
    exact g0 h2 y2 M2 c125
  · refine hI_lc (n := 0) rfl rfl ?_ -- 128
    refine hI_go (pc' := 136) (off := 7) rfl (by decide) ?_ -- 129
    refine hM_pl M (by decide) ok_49 rfl rfl (k := 12) (c := 9) rfl rfl ⟨by decide, by decide +kernel, rfl⟩ (d_subm hw (by decide +kernel)) rfl (fun h3 y3 M3 => ?_) -- 136
    exact g1 h3 y3 M3 c125
theorem s_tk139 (M : MX 49 W ρ m A h0 h F V G) (e0 : m_lk lv 0 = some (.ref m)) (hw : d_sub [(49, 10)] W = true)
    (g0 : ∀ h2 : MH, ∀ F2 : Nat → Int, F2 = m_u F 10 (2) → MX 49 W ρ m A h0 h2 F2 V G → Q none h2)
    : HJ 190 139 lv [] h Q := by
  refine hI_al (k := 0) rfl e0 rfl ?_ -- 139
  refine hM_ic (n := 2) rfl (by decide) rfl (fun x1 q1 => ?_) -- 140
  refine hM_pi M (by decide) ok_49 rfl rfl (k := 10) (c := 9) (lo := (-2147483648)) (hi := 2147483647) rfl rfl ⟨by decide, by decide +kernel, rfl⟩ rfl (d_subm hw (by decide +kernel)) q1 (by omega) (by omega) rfl (fun h2 F2 f2 M2 => ?_) -- 141
  refine hI_go (pc' := 266) (off := 122) rfl (by decide) ?_ -- 144
  refine hI_rv rfl rfl ?_
  exact g0 h2 F2 f2 M2
theorem s_tk155 {c k z : Int} (M : MX 49 W ρ m A h0 h F V G) (e0 : m_lk lv 0 = some (.ref m)) {lx1 : Int32} (e1 : m_lk lv 1 = some (.int lx1)) (lq1 : lx1.toInt = c) {lx2 : Int32} (e2 : m_lk lv 2 = some (.int lx2)) (lq2 : lx2.toInt = k) {sx0 : Int32} (sq0 : sx0.toInt = z) (hw : d_sub [(49, 11)] W = true)
    (g0 : z = 0 → HJ 190 241 lv [] h Q)
    (g1 : ∀ h2 : MH, ∀ F2 : Nat → Int, F2 = m_u F 11 (0) → MX 49 W ρ m A h0 h2 F2 V G → z ≠ 0 → HJ 190 163 lv [] h2 Q)
    : HJ 190 155 lv [.int sx0] h Q := by
  refine hM_zeq (off := 86) (t := 241) rfl sq0 (by decide) rfl (fun c155 => ?_) (fun c155 => ?_) -- 155
  · exact g0 c155
  · refine hI_al (k := 0) rfl e0 rfl ?_ -- 158
    refine hM_ic (n := 0) rfl (by decide) rfl (fun x1 q1 => ?_) -- 159
    refine hM_pi M (by decide) ok_49 rfl rfl (k := 11) (c := 9) (lo := (-2147483648)) (hi := 2147483647) rfl rfl ⟨by decide, by decide +kernel, rfl⟩ rfl (d_subm hw (by decide +kernel)) q1 (by omega) (by omega) rfl (fun h2 F2 f2 M2 => ?_) -- 160
    exact g1 h2 F2 f2 M2 c155
theorem s_tk163 {c k : Int} (M : MX 49 W ρ m A h0 h F V G) (e0 : m_lk lv 0 = some (.ref m)) {lx1 : Int32} (e1 : m_lk lv 1 = some (.int lx1)) (lq1 : lx1.toInt = c) {lx2 : Int32} (e2 : m_lk lv 2 = some (.int lx2)) (lq2 : lx2.toInt = k) 
    (g0 : HJ 191 0 (lv_args 0 [.ref m]) [] h (fun v h' => HJ 190 167 lv (v.toList ++ []) h' Q))
    : HJ 190 163 lv [] h Q := by
  refine hI_al (k := 0) rfl e0 rfl ?_ -- 163
  refine hM_iv M (by decide) rfl rfl (by decide) (as := []) (r := []) rfl rfl (by decide +kernel) rfl (by decide +kernel) rfl rfl rfl rfl rfl ?_ -- 164
  exact g0 
theorem s_tk167 {c k y : Int} (M : MX 49 W ρ m A h0 h F V G) (e0 : m_lk lv 0 = some (.ref m)) {lx1 : Int32} (e1 : m_lk lv 1 = some (.int lx1)) (lq1 : lx1.toInt = c) {lx2 : Int32} (e2 : m_lk lv 2 = some (.int lx2)) (lq2 : lx2.toInt = k) {sx0 : Int32} (sq0 : sx0.toInt = y) 
    (g0 : ∀ x1 : Int32, x1.toInt = 48 → ∀ x2 : Int32, x2.toInt = 57 → HJ 186 0 (lv_args 0 [.int sx0, .int x1, .int x2]) [] h (fun v h' => HJ 190 174 lv (v.toList ++ []) h' Q))
    : HJ 190 167 lv [.int sx0] h Q := by
  refine hM_bp (n := 48) rfl (by decide) rfl (fun x1 q1 => ?_) -- 167
  refine hM_bp (n := 57) rfl (by decide) rfl (fun x2 q2 => ?_) -- 169
  refine hM_is0 (as := [.int sx0, .int x1, .int x2]) (r := []) rfl rfl (by decide +kernel) rfl rfl rfl rfl rfl ?_ -- 171
  exact g0 x1 q1 x2 q2
theorem s_tk174 {c k z : Int} (M : MX 49 W ρ m A h0 h F V G) (e0 : m_lk lv 0 = some (.ref m)) {lx1 : Int32} (e1 : m_lk lv 1 = some (.int lx1)) (lq1 : lx1.toInt = c) {lx2 : Int32} (e2 : m_lk lv 2 = some (.int lx2)) (lq2 : lx2.toInt = k) {sx0 : Int32} (sq0 : sx0.toInt = z) (v0 : k < 2 → 0 ≤ F 11 ∧ F 11 ≤ 99)
    (g0 : z = 0 → HJ 190 224 lv [] h Q)
    (g1 : ∀ x2 : Int32, x2.toInt = F 11 → z ≠ 0 → k ≥ 2 → (-2147483648) ≤ F 11 → F 11 ≤ 2147483647 → HJ 190 205 lv [.int x2, .ref m] h Q)
    (g2 : ∀ x5 : Int32, x5.toInt = 10 * (F 11) → z ≠ 0 → k < 2 → (-2147483648) ≤ F 11 → F 11 ≤ 2147483647 → HJ 191 0 (lv_args 0 [.ref m]) [] h (fun v h' => HJ 190 194 lv (v.toList ++ [.int x5, .ref m]) h' Q))
    : HJ 190 174 lv [.int sx0] h Q := by
  refine hM_zeq (off := 50) (t := 224) rfl sq0 (by decide) rfl (fun c174 => ?_) (fun c174 => ?_) -- 174
  · exact g0 c174
  · refine hI_al (k := 0) rfl e0 rfl ?_ -- 177
    refine hI_il (k := 2) rfl e2 rfl ?_ -- 178
    refine hM_ic (n := 2) rfl (by decide) rfl (fun x1 q1 => ?_) -- 179
    refine hM_cge (off := 21) (t := 201) rfl lq2 q1 (by decide) rfl (fun c180 => ?_) (fun c180 => ?_) -- 180
    · refine hI_al (k := 0) rfl e0 rfl ?_ -- 201
      refine hM_gi M (by decide) rfl rfl rfl (k := 11) (c := 9) (lo := (-2147483648)) (hi := 2147483647) rfl rfl rfl rfl rfl (fun x2 q2 a2 b2 => ?_) -- 202
      exact g1 x2 q2 c174 c180 a2 b2
    · refine hM_bp (n := 10) rfl (by decide) rfl (fun x3 q3 => ?_) -- 183
      refine hI_al (k := 0) rfl e0 rfl ?_ -- 185
      refine hM_gi M (by decide) rfl rfl rfl (k := 11) (c := 9) (lo := (-2147483648)) (hi := 2147483647) rfl rfl rfl rfl rfl (fun x4 q4 a4 b4 => ?_) -- 186
      refine hM_mul rfl q3 q4 (by omega) (by omega) rfl (fun x5 q5 => ?_) -- 189
      refine hI_al (k := 0) rfl e0 rfl ?_ -- 190
      refine hM_iv M (by decide) rfl rfl (by decide) (as := []) (r := [.int x5, .ref m]) rfl rfl (by decide +kernel) rfl (by decide +kernel) rfl rfl rfl rfl rfl ?_ -- 191
      exact g2 x5 q5 c174 c180 a4 b4
theorem s_tk194 {c k a y : Int} (M : MX 49 W ρ m A h0 h F V G) (e0 : m_lk lv 0 = some (.ref m)) {lx1 : Int32} (e1 : m_lk lv 1 = some (.int lx1)) (lq1 : lx1.toInt = c) {lx2 : Int32} (e2 : m_lk lv 2 = some (.int lx2)) (lq2 : lx2.toInt = k) {sx1 : Int32} (sq1 : sx1.toInt = a) {sx2 : Int32} (sq2 : sx2.toInt = y) (a0 : 0 ≤ a) (a1 : a ≤ 1000) (y0 : 0 ≤ y) (y1 : y ≤ 255)
    (g0 : ∀ x3 : Int32, x3.toInt = (a + y) - 48 → HJ 190 205 lv [.int x3, .ref m] h Q)
    : HJ 190 194 lv [.int sx2, .int sx1, .ref m] h Q := by
  refine hM_add rfl sq1 sq2 (by omega) (by omega) rfl (fun x1 q1 => ?_) -- 194
  refine hM_bp (n := 48) rfl (by decide) rfl (fun x2 q2 => ?_) -- 195
  refine hM_sub rfl q1 q2 (by omega) (by omega) rfl (fun x3 q3 => ?_) -- 197
  refine hI_go (pc' := 205) (off := 7) rfl (by decide) ?_ -- 198
  exact g0 x3 q3
theorem s_tk205 {c k v : Int} (M : MX 49 W ρ m A h0 h F V G) (e0 : m_lk lv 0 = some (.ref m)) {lx1 : Int32} (e1 : m_lk lv 1 = some (.int lx1)) (lq1 : lx1.toInt = c) {lx2 : Int32} (e2 : m_lk lv 2 = some (.int lx2)) (lq2 : lx2.toInt = k) {sx1 : Int32} (sq1 : sx1.toInt = v) (i1 : F 7 ≤ 599) (k0 : 0 ≤ k) (k1 : k ≤ 600)(hw : d_sub [(49, 11), (49, 7)] W = true)
    (g0 : ∀ h1 : MH, ∀ F1 : Nat → Int, F1 = m_u F 11 (v) → ∀ h5 : MH, ∀ F5 : Nat → Int, F5 = m_u F1 7 ((F 7) + 1) → ∀ x6 : Int32, x6.toInt = k + 1 → ∀ lv6 : List (Nat × Value), MX 49 W ρ m A h0 h5 F5 V G → m_lk lv6 0 = some (.ref m) → m_lk lv6 1 = some (.int lx1) → m_lk lv6 2 = some (.int x6) → 0 ≤ F 7 → F 7 ≤ 600 → HJ 190 163 lv6 [] h5 Q)
    : HJ 190 205 lv [.int sx1, .ref m] h Q := by
  have lb1 : -2147483648 ≤ c ∧ c ≤ 2147483647 := by rw [← lq1]; exact g_iT _
  have lb2 : -2147483648 ≤ k ∧ k ≤ 2147483647 := by rw [← lq2]; exact g_iT _
  have sb1 : -2147483648 ≤ v ∧ v ≤ 2147483647 := by rw [← sq1]; exact g_iT _
  refine hM_pi M (by decide) ok_49 rfl rfl (k := 11) (c := 9) (lo := (-2147483648)) (hi := 2147483647) rfl rfl ⟨by decide, by decide +kernel, rfl⟩ rfl (d_subm hw (by decide +kernel)) sq1 (by omega) (by omega) rfl (fun h1 F1 f1 M1 => ?_) -- 205
  refine hI_al (k := 0) rfl e0 rfl ?_ -- 208
  refine hI_dup rfl rfl rfl ?_ -- 209
  refine hM_gi M1 (by decide) rfl rfl rfl (k := 7) (c := 9) (lo := 0) (hi := 600) rfl rfl rfl rfl rfl (fun x2 q2 a2 b2 => ?_) -- 210
  have q2 : x2.toInt = F 7 := by rw [q2, f1]; rfl
  have a2 := a2
  rw [f1] at a2 b2
  change 0 ≤ F 7 at a2
  change F 7 ≤ 600 at b2 -- 210
  refine hM_ic (n := 1) rfl (by decide) rfl (fun x3 q3 => ?_) -- 213
  refine hM_add rfl q2 q3 (by omega) (by omega) rfl (fun x4 q4 => ?_) -- 214
  refine hM_pi M1 (by decide) ok_49 rfl rfl (k := 7) (c := 9) (lo := 0) (hi := 600) rfl rfl ⟨by decide, by decide +kernel, rfl⟩ rfl (d_subm hw (by decide +kernel)) q4 (by omega) (by omega) rfl (fun h5 F5 f5 M5 => ?_) -- 215
  refine hM_inc (k := 2) (z := 1) rfl e2 lq2 (by decide) (by omega) (by omega) (by decide +kernel) rfl (fun lv6 x6 q6 e6_2 u6 => ?_) -- 218
  have e6_0 := u6 0 _ (by decide) (Or.inl rfl) e0
  have e6_1 := u6 1 _ (by decide) (Or.inl rfl) e1
  refine hI_go (pc' := 163) (off := (-58)) rfl (by decide) ?_ -- 221
  exact g0 h1 F1 f1 h5 F5 f5 x6 q6 lv6 M5 e6_0 e6_1 e6_2 a2 b2
theorem s_tk224 {c k : Int} (M : MX 49 W ρ m A h0 h F V G) (e0 : m_lk lv 0 = some (.ref m)) {lx1 : Int32} (e1 : m_lk lv 1 = some (.int lx1)) (lq1 : lx1.toInt = c) {lx2 : Int32} (e2 : m_lk lv 2 = some (.int lx2)) (lq2 : lx2.toInt = k) (hw : d_sub [(49, 10)] W = true)
    (g0 : ∀ h3 : MH, ∀ F3 : Nat → Int, F3 = m_u F 10 (3) → MX 49 W ρ m A h0 h3 F3 V G → k ≤ 2 → Q none h3)
    (g1 : ∀ h5 : MH, ∀ F5 : Nat → Int, F5 = m_u F 10 (1) → MX 49 W ρ m A h0 h5 F5 V G → k > 2 → Q none h5)
    : HJ 190 224 lv [] h Q := by
  refine hI_al (k := 0) rfl e0 rfl ?_ -- 224
  refine hI_il (k := 2) rfl e2 rfl ?_ -- 225
  refine hM_ic (n := 2) rfl (by decide) rfl (fun x1 q1 => ?_) -- 226
  refine hM_cle (off := 7) (t := 234) rfl lq2 q1 (by decide) rfl (fun c227 => ?_) (fun c227 => ?_) -- 227
  · refine hM_ic (n := 3) rfl (by decide) rfl (fun x2 q2 => ?_) -- 234
    refine hM_pi M (by decide) ok_49 rfl rfl (k := 10) (c := 9) (lo := (-2147483648)) (hi := 2147483647) rfl rfl ⟨by decide, by decide +kernel, rfl⟩ rfl (d_subm hw (by decide +kernel)) q2 (by omega) (by omega) rfl (fun h3 F3 f3 M3 => ?_) -- 235
    refine hI_go (pc' := 266) (off := 28) rfl (by decide) ?_ -- 238
    refine hI_rv rfl rfl ?_
    exact g0 h3 F3 f3 M3 c227
  · refine hM_ic (n := 1) rfl (by decide) rfl (fun x4 q4 => ?_) -- 230
    refine hI_go (pc' := 235) (off := 4) rfl (by decide) ?_ -- 231
    refine hM_pi M (by decide) ok_49 rfl rfl (k := 10) (c := 9) (lo := (-2147483648)) (hi := 2147483647) rfl rfl ⟨by decide, by decide +kernel, rfl⟩ rfl (d_subm hw (by decide +kernel)) q4 (by omega) (by omega) rfl (fun h5 F5 f5 M5 => ?_) -- 235
    refine hI_go (pc' := 266) (off := 28) rfl (by decide) ?_ -- 238
    refine hI_rv rfl rfl ?_
    exact g1 h5 F5 f5 M5 c227
theorem s_tk241 {c k : Int} (M : MX 49 W ρ m A h0 h F V G) (e0 : m_lk lv 0 = some (.ref m)) {lx1 : Int32} (e1 : m_lk lv 1 = some (.int lx1)) (lq1 : lx1.toInt = c) {lx2 : Int32} (e2 : m_lk lv 2 = some (.int lx2)) (lq2 : lx2.toInt = k) (i1 : F 7 ≤ 599)(hw : d_sub [(49, 7), (49, 10)] W = true)
    (g0 : ∀ h4 : MH, ∀ F4 : Nat → Int, F4 = m_u F 7 ((F 7) + 1) → ∀ h7 : MH, ∀ F7 : Nat → Int, F7 = m_u F4 10 (1) → MX 49 W ρ m A h0 h7 F7 V G → 0 ≤ F 7 → F 7 ≤ 600 → c ≠ 59 → Q none h7)
    (g1 : ∀ h4 : MH, ∀ F4 : Nat → Int, F4 = m_u F 7 ((F 7) + 1) → ∀ h9 : MH, ∀ F9 : Nat → Int, F9 = m_u F4 10 (4) → MX 49 W ρ m A h0 h9 F9 V G → 0 ≤ F 7 → F 7 ≤ 600 → c = 59 → Q none h9)
    : HJ 190 241 lv [] h Q := by
  refine hI_al (k := 0) rfl e0 rfl ?_ -- 241
  refine hI_dup rfl rfl rfl ?_ -- 242
  refine hM_gi M (by decide) rfl rfl rfl (k := 7) (c := 9) (lo := 0) (hi := 600) rfl rfl rfl rfl rfl (fun x1 q1 a1 b1 => ?_) -- 243
  refine hM_ic (n := 1) rfl (by decide) rfl (fun x2 q2 => ?_) -- 246
  refine hM_add rfl q1 q2 (by omega) (by omega) rfl (fun x3 q3 => ?_) -- 247
  refine hM_pi M (by decide) ok_49 rfl rfl (k := 7) (c := 9) (lo := 0) (hi := 600) rfl rfl ⟨by decide, by decide +kernel, rfl⟩ rfl (d_subm hw (by decide +kernel)) q3 (by omega) (by omega) rfl (fun h4 F4 f4 M4 => ?_) -- 248
  refine hI_al (k := 0) rfl e0 rfl ?_ -- 251
  refine hI_il (k := 1) rfl e1 rfl ?_ -- 252
  refine hM_bp (n := 59) rfl (by decide) rfl (fun x5 q5 => ?_) -- 253
  refine hM_cne (off := 7) (t := 262) rfl lq1 q5 (by decide) rfl (fun c255 => ?_) (fun c255 => ?_) -- 255
  · refine hM_ic (n := 1) rfl (by decide) rfl (fun x6 q6 => ?_) -- 262
    refine hM_pi M4 (by decide) ok_49 rfl rfl (k := 10) (c := 9) (lo := (-2147483648)) (hi := 2147483647) rfl rfl ⟨by decide, by decide +kernel, rfl⟩ rfl (d_subm hw (by decide +kernel)) q6 (by omega) (by omega) rfl (fun h7 F7 f7 M7 => ?_) -- 263
    refine hI_rv rfl rfl ?_
    exact g0 h4 F4 f4 h7 F7 f7 M7 a1 b1 c255
  · refine hM_ic (n := 4) rfl (by decide) rfl (fun x8 q8 => ?_) -- 258
    refine hI_go (pc' := 263) (off := 4) rfl (by decide) ?_ -- 259
    refine hM_pi M4 (by decide) ok_49 rfl rfl (k := 10) (c := 9) (lo := (-2147483648)) (hi := 2147483647) rfl rfl ⟨by decide, by decide +kernel, rfl⟩ rfl (d_subm hw (by decide +kernel)) q8 (by omega) (by omega) rfl (fun h9 F9 f9 M9 => ?_) -- 263
    refine hI_rv rfl rfl ?_
    exact g1 h4 F4 f4 h9 F9 f9 M9 a1 b1 c255
theorem s_tk266   
    (g0 : Q none h)
    : HJ 190 266 lv [] h Q := by
  refine hI_rv rfl rfl ?_
  exact g0 
theorem c_see {p n : Nat} (M : MX 49 W ρ m A h0 h F V G) (q7 : F 7 = (p : Int)) (q8 : F 8 = (n : Int)) (g : ∀ x : Int32, (p < n ∧ x.toInt = V 1 p % 256 ∧ -128 ≤ V 1 p ∧ V 1 p ≤ 127 ∧ n ≤ 600) ∨ (n ≤ p ∧ x.toInt = -1) → Q (some (.int x)) h) : HJ 191 0 (lv_args 0 [.ref m]) [] h Q := by
  have hp : (F 7).toNat = p := by omega
  refine s_see M rfl (fun x q _ _ _ _ c => g x (Or.inr ⟨by omega, q⟩)) (fun x q _ _ _ b8 c a b => g x (Or.inl ?_))
  rw [hp] at q a b
  exact ⟨by omega, q, a, b, by omega⟩
-- blanks
theorem l_mws {n S : Nat} {F0 : Nat → Int} (hw : d_sub [(49, 7)] W = true) (e0 : m_lk lv 0 = some (.ref m)) (g : ∀ (h' : MH) (F' : Nat → Int), MX 49 W ρ m A h0 h' F' V G → F' 7 = (S : Int) → (∀ K, K ≠ 7 → F' K = F0 K) → HJ 190 31 lv [] h' Q) : ∀ (d p : Nat) (h : MH) (F : Nat → Int), p + d = n → MX 49 W ρ m A h0 h F V G → F 8 = (n : Int) → F 7 = (p : Int) → (∀ K, K ≠ 7 → F K = F0 K) → rd_go rd_ws (V 1) d p = S → HJ 190 0 lv [] h Q := by
  intro d
  induction d with
  | zero =>
    intro p h F hd M q8 q7 o eS
    have eS : p = S := eS
    refine s_tk0 M e0 (c_see M q7 q8 (fun x hx => s_tk4 (z := x.toInt) M e0 rfl (fun c => by omega) hw (fun h5 F5 f5 M5 c _ _ => by omega) (fun _ => c_see M q7 q8 (fun y hy => s_tk13 (z := y.toInt) M e0 rfl (fun c => by omega) hw (fun _ => g h F M (by omega) o) (fun h5 F5 f5 M5 c _ _ => by omega)))))
  | succ d ih =>
    intro p h F hd M q8 q7 o eS
    have nx : ∀ (h5 : MH) (F5 : Nat → Int), F5 = m_u F 7 (F 7 + 1) → MX 49 W ρ m A h0 h5 F5 V G → rd_ws (V 1 p) = true → HJ 190 0 lv [] h5 Q := fun h5 F5 f5 M5 c => ih (p + 1) h5 F5 (by omega) M5 (by rw [f5, m_uN _ _ _ _ (by decide)]; exact q8) (by rw [f5, m_uE]; omega) (fun K hK => by rw [f5, m_uN _ _ _ _ hK]; exact o K hK) (by rw [← rd_goS c]; exact eS)
    refine s_tk0 M e0 (c_see M q7 q8 (fun x hx => s_tk4 (z := x.toInt) M e0 rfl (fun c => by omega) hw (fun h5 F5 f5 M5 c _ _ => nx h5 F5 f5 M5 (rd_wsT.mpr (by omega))) (fun c1 => c_see M q7 q8 (fun y hy => s_tk13 (z := y.toInt) M e0 rfl (fun c => by omega) hw (fun c2 => ?_) (fun h5 F5 f5 M5 c _ _ => nx h5 F5 f5 M5 (rd_wsT.mpr (by omega)))))))
    exact g h F M (by rw [← eS, rd_goE (rd_wsF.mpr (by omega))]; exact q7) o
-- letters and the number that they make
theorem l_mwd {n S s : Nat} {c : Int} {xc : Int32} {F0 : Nat → Int} (hw : d_sub [(49, 7), (49, 12)] W = true) (qc : xc.toInt = c) (g : ∀ (lv : List (Nat × Value)) (h' : MH) (F' : Nat → Int) (w : Int64) (xk : Int32), MX 49 W ρ m A h0 h' F' V G → F' 7 = (S : Int) → (∀ K, K ≠ 7 → F' K = F0 K) → h_l h' m 12 = w → xk.toInt = ((S - s : Nat) : Int) → (S - s ≤ 8 → w = Int64.ofNat (rd_w (V 1) s (S - s))) → (∀ i, i < S - s → 97 ≤ V 1 (s + i) ∧ V 1 (s + i) ≤ 122) → m_lk lv 0 = some (.ref m) → m_lk lv 1 = some (.int xc) → m_lk lv 2 = some (.int xk) → HJ 190 121 lv [] h' Q) : ∀ (d j : Nat) (lv : List (Nat × Value)) (h : MH) (F : Nat → Int) (w : Int64) (xk : Int32), s + j + d = n → n ≤ 600 → MX 49 W ρ m A h0 h F V G → F 8 = (n : Int) → F 7 = ((s + j : Nat) : Int) → (∀ K, K ≠ 7 → F K = F0 K) → h_l h m 12 = w → xk.toInt = (j : Int) → (j ≤ 8 → w = Int64.ofNat (rd_w (V 1) s j)) → (∀ i, i < j → 97 ≤ V 1 (s + i) ∧ V 1 (s + i) ≤ 122) → m_lk lv 0 = some (.ref m) → m_lk lv 1 = some (.int xc) → m_lk lv 2 = some (.int xk) → rd_go rd_al (V 1) d (s + j) = S → HJ 190 74 lv [] h Q := by
  intro d
  induction d with
  | zero =>
    intro j lv h F w xk hd n6 M q8 q7 o wl qk wj hb e0 e1 e2 eS
    have eS : s + j = S := eS
    have ej : S - s = j := by omega
    refine s_tk74 M e0 e1 qc e2 qk (c_see M q7 q8 (fun x hx => s_tk78 (y := x.toInt) M e0 e1 qc e2 qk rfl (fun x1 r1 x2 r2 => c_in M rfl r1 r2 (fun z hz => s_tk85 (z := z.toInt) (w := w) M e0 e1 qc e2 qk rfl wl (fun _ => g lv h F w xk M (by omega) o wl (by rw [ej]; exact qk) (by rw [ej]; exact wj) (by rw [ej]; exact hb) e0 e1 e2) (fun c0 => by omega)))))
  | succ d ih =>
    intro j lv h F w xk hd n6 M q8 q7 o wl qk wj hb e0 e1 e2 eS
    refine s_tk74 M e0 e1 qc e2 qk (c_see M q7 q8 (fun x hx => s_tk78 (y := x.toInt) M e0 e1 qc e2 qk rfl (fun x1 r1 x2 r2 => c_in M rfl r1 r2 (fun z hz => s_tk85 (z := z.toInt) (w := w) M e0 e1 qc e2 qk rfl wl (fun c0 => ?_) (fun c0 => ?_)))))
    · have eS : s + j = S := by rw [← eS, rd_goE (rd_alF.mpr (by omega))]
      have ej : S - s = j := by omega
      exact g lv h F w xk M (by omega) o wl (by rw [ej]; exact qk) (by rw [ej]; exact wj) (by rw [ej]; exact hb) e0 e1 e2
    · have ha : 97 ≤ V 1 (s + j) ∧ V 1 (s + j) ≤ 122 := by omega
      have hb2 : ∀ i, i < j + 1 → 97 ≤ V 1 (s + i) ∧ V 1 (s + i) ≤ 122 := fun i hi => by
        by_cases e : i = j
        · rw [e]; exact ha
        · exact hb i (by omega)
      refine c_see M q7 q8 (fun y hy => s_tk100 (y := y.toInt) M e0 e1 qc e2 qk rfl (d_subm hw (by decide +kernel)) (fun h1 y1 M1 => s_tk105 (MX.again M1 [(49, 7)]) e0 e1 qc e2 qk (by omega) (by omega) (by omega) (by decide +kernel) (fun h4 F4 f4 x5 q5 lv5 M4 d0 d1 d2 _ _ => ?_)))
      refine ih (j + 1) lv5 h4 F4 _ x5 (by omega) n6 (M1.re M4 (d_subm hw (by decide +kernel))) (by rw [f4, m_uN _ _ _ _ (by decide)]; exact q8) (by rw [f4, m_uE]; omega) (fun K hK => by rw [f4, m_uN _ _ _ _ hK]; exact o K hK) ((M4.lf (by decide) (by decide +kernel)).trans y1) (by omega) (fun j9 => ?_) hb2 d0 d1 d2 (by rw [← Nat.add_assoc, ← rd_goS (rd_alT.mpr ha)]; exact eS)
      have bw := rd_wB (T := V 1) (s := s) j hb
      have b7 : 256 ^ j ≤ 256 ^ 7 := Nat.pow_le_pow_right (by decide) (by omega)
      rw [wj (by omega), l_step (by omega) (by omega) (by omega), rd_w, show y.toInt.toNat = (V 1 (s + j)).toNat by omega]
-- what the number of a word says of it
def wd_ok (w : Int64) (T : Nat → Int) (s b : Nat) : Prop := ∀ k, k < 6 → (w = Int64.ofNat (rd_W k) ↔ rd_is T s b (rd_nm k))
theorem wd_lo {w : Int64} {T : Nat → Int} {s b : Nat} (sb : s ≤ b) (e : w = Int64.ofNat (rd_w T s (b - s))) (j8 : b - s ≤ 8) (hb : ∀ i, i < b - s → 97 ≤ T (s + i) ∧ T (s + i) ≤ 122) : wd_ok w T s b := fun k hk => by
  have bw := rd_wB (T := T) (s := s) (b - s) hb
  have b8 : 256 ^ (b - s) ≤ 256 ^ 8 := Nat.pow_le_pow_right (by decide) j8
  have bk := rd_WB (k := k)
  rw [e, l_ofN (by omega) (by omega), rd_wk hk j8 hb, show s + (b - s) = b by omega]
theorem wd_hi {w : Int64} {T : Nat → Int} {s b : Nat} (e : w = Int64.ofNat 0) (j8 : 8 < b - s) : wd_ok w T s b := fun k hk => by
  have bk := rd_WB (k := k)
  have bl := rd_nmL hk
  rw [e, l_ofN (by decide) (by omega), rd_isT]
  exact ⟨fun z => absurd z.symm (rd_W0 hk), fun z => by omega⟩
-- digits
theorem l_mnb {n S s : Nat} {c : Int} {xc : Int32} {F0 : Nat → Int} (hw : d_sub [(49, 7), (49, 11)] W = true) (qc : xc.toInt = c) (g : ∀ (lv : List (Nat × Value)) (h' : MH) (F' : Nat → Int) (xk : Int32), MX 49 W ρ m A h0 h' F' V G → F' 7 = (S : Int) → (s < S → S - s ≤ 2 → F' 11 = rd_nb (V 1) s S) → (∀ K, K ≠ 7 → K ≠ 11 → F' K = F0 K) → xk.toInt = ((S - s : Nat) : Int) → m_lk lv 0 = some (.ref m) → m_lk lv 1 = some (.int xc) → m_lk lv 2 = some (.int xk) → HJ 190 224 lv [] h' Q) : ∀ (d j : Nat) (lv : List (Nat × Value)) (h : MH) (F : Nat → Int) (xk : Int32), s + j + d = n → n ≤ 600 → MX 49 W ρ m A h0 h F V G → F 8 = (n : Int) → F 7 = ((s + j : Nat) : Int) → (j = 0 → F 11 = 0) → (1 ≤ j → j ≤ 2 → F 11 = rd_nb (V 1) s (s + j)) → (j = 1 → 0 ≤ F 11 ∧ F 11 ≤ 9) → (∀ K, K ≠ 7 → K ≠ 11 → F K = F0 K) → xk.toInt = (j : Int) → m_lk lv 0 = some (.ref m) → m_lk lv 1 = some (.int xc) → m_lk lv 2 = some (.int xk) → rd_go rd_dg (V 1) d (s + j) = S → HJ 190 163 lv [] h Q := by
  intro d
  induction d with
  | zero =>
    intro j lv h F xk hd n6 M q8 q7 v0 v1 v2 o qk e0 e1 e2 eS
    have eS : s + j = S := eS
    have ej : S - s = j := by omega
    refine s_tk163 M e0 e1 qc e2 qk (c_see M q7 q8 (fun x hx => s_tk167 (y := x.toInt) M e0 e1 qc e2 qk rfl (fun x1 r1 x2 r2 => c_in M rfl r1 r2 (fun z hz => s_tk174 (z := z.toInt) M e0 e1 qc e2 qk rfl (fun c => by
      by_cases e : j = 0
      · have := v0 e; omega
      · have := v2 (by omega); omega) (fun _ => g lv h F xk M (by omega) (fun a b => by rw [← eS]; exact v1 (by omega) (by omega)) o (by rw [ej]; exact qk) e0 e1 e2) (fun _ _ c0 => by omega) (fun _ _ c0 => by omega)))))
  | succ d ih =>
    intro j lv h F xk hd n6 M q8 q7 v0 v1 v2 o qk e0 e1 e2 eS
    have vv : j < 2 → 0 ≤ F 11 ∧ F 11 ≤ 99 := fun c => by
      by_cases e : j = 0
      · have := v0 e; omega
      · have := v2 (by omega); omega
    refine s_tk163 M e0 e1 qc e2 qk (c_see M q7 q8 (fun x hx => s_tk167 (y := x.toInt) M e0 e1 qc e2 qk rfl (fun x1 r1 x2 r2 => c_in M rfl r1 r2 (fun z hz => s_tk174 (z := z.toInt) M e0 e1 qc e2 qk rfl (fun c => vv (by omega)) (fun c0 => ?_) (fun x2 p2 c0 ck _ _ => ?_) (fun x5 p5 c0 ck _ _ => ?_)))))
    · have eS : s + j = S := by rw [← eS, rd_goE (rd_dgF.mpr (by omega))]
      have ej : S - s = j := by omega
      exact g lv h F xk M (by omega) (fun a b => by rw [← eS]; exact v1 (by omega) (by omega)) o (by rw [ej]; exact qk) e0 e1 e2
    · have ha : 48 ≤ V 1 (s + j) ∧ V 1 (s + j) ≤ 57 := by omega
      refine s_tk205 (v := F 11) M e0 e1 qc e2 qk p2 (by omega) (by omega) (by omega) (d_subm hw (by decide +kernel)) (fun h1 F1 f1 h5 F5 f5 x6 q6 lv6 M5 d0 d1 d2 _ _ => ?_)
      exact ih (j + 1) lv6 h5 F5 x6 (by omega) n6 M5 (by rw [f5, m_uN _ _ _ _ (by decide), f1, m_uN _ _ _ _ (by decide)]; exact q8) (by rw [f5, m_uE]; omega) (fun y => by omega) (fun _ y => by omega) (fun y => by omega) (fun K h7 h11 => by rw [f5, m_uN _ _ _ _ h7, f1, m_uN _ _ _ _ h11]; exact o K h7 h11) (by omega) d0 d1 d2 (by rw [← Nat.add_assoc, ← rd_goS (rd_dgT.mpr ha)]; exact eS)
    · have ha : 48 ≤ V 1 (s + j) ∧ V 1 (s + j) ≤ 57 := by omega
      have v9 := vv (by omega)
      refine c_see M q7 q8 (fun y hy => s_tk194 (a := 10 * F 11) (y := y.toInt) M e0 e1 qc e2 qk p5 rfl (by omega) (by omega) (by omega) (by omega) (fun x3 p3 => s_tk205 (v := 10 * F 11 + y.toInt - 48) M e0 e1 qc e2 qk p3 (by omega) (by omega) (by omega) (d_subm hw (by decide +kernel)) (fun h1 F1 f1 h5 F5 f5 x6 q6 lv6 M5 d0 d1 d2 _ _ => ?_)))
      have f11 : F5 11 = 10 * F 11 + V 1 (s + j) - 48 := by
        rw [f5, m_uN _ _ _ _ (by decide), f1, m_uE]
        omega
      refine ih (j + 1) lv6 h5 F5 x6 (by omega) n6 M5 (by rw [f5, m_uN _ _ _ _ (by decide), f1, m_uN _ _ _ _ (by decide)]; exact q8) (by rw [f5, m_uE]; omega) (fun y => by omega) (fun _ y2 => ?_) (fun y1 => ?_) (fun K h7 h11 => by rw [f5, m_uN _ _ _ _ h7, f1, m_uN _ _ _ _ h11]; exact o K h7 h11) (by omega) d0 d1 d2 (by rw [← Nat.add_assoc, ← rd_goS (rd_dgT.mpr ha)]; exact eS)
      · rw [f11]
        unfold rd_nb
        by_cases e : j = 0
        · rw [if_pos (by omega), v0 e, e]
          simp only [Nat.add_zero]
          omega
        · have e1 : j = 1 := by omega
          have v := v1 (by omega) (by omega)
          unfold rd_nb at v
          rw [if_pos (by omega)] at v
          rw [if_neg (by omega), v, e1]
          omega
      · rw [f11, v0 (by omega)]
        omega
def w_mt : List (Nat × Nat) := [(49, 7), (49, 9), (49, 10), (49, 11), (49, 12)]
-- the sort of a token, as the reference has it
def rt_m (t : Int) : Int := if t = 0 then 0 else if t = 1 then 2 else if t = 2 then 3 else if t = 3 then 4 else 1
theorem c_mtk {n p : Nat} (M : MX 49 W ρ m A h0 h F V G) (hw : d_sub w_mt W = true) (q8 : F 8 = (n : Int)) (q7 : F 7 = (p : Int)) (pn : p ≤ n) (g : ∀ (h' : MH) (F' : Nat → Int), MX 49 W ρ m A h0 h' F' V G → F' 9 = (rt_s (rd_tk (V 1) n p) : Int) → F' 7 = (rt_b (rd_tk (V 1) n p) : Int) → F' 10 = rt_m (rt_t (rd_tk (V 1) n p)) → (rt_t (rd_tk (V 1) n p) = 2 → F' 11 = rt_v (rd_tk (V 1) n p)) → (rt_t (rd_tk (V 1) n p) = 1 → wd_ok (h_l h' m 12) (V 1) (rt_s (rd_tk (V 1) n p)) (rt_b (rd_tk (V 1) n p))) → (∀ K, K ≠ 7 → K ≠ 9 → K ≠ 10 → K ≠ 11 → F' K = F K) → Q none h') : HJ 190 0 (lv_args 0 [.ref m]) [] h Q := by
  have hb := rd_goB (f := rd_ws) (T := V 1) (n - p) p
  have n6 : n ≤ 600 := by
    have := (M.fi (by decide) (k := 8) (lo := 0) (hi := 600) rfl rfl rfl).2
    omega
  refine l_mws (n := n) (S := rd_go rd_ws (V 1) (n - p) p) (F0 := F) (d_subm hw (by decide +kernel)) rfl (fun h3 F3 M3 e7 o3 => ?_) (n - p) p h F (by omega) M q8 q7 (fun _ _ => rfl) rfl
  generalize hs : rd_go rd_ws (V 1) (n - p) p = s at hb e7
  have e8 : F3 8 = (n : Int) := by rw [o3 8 (by decide)]; exact q8
  refine s_tk31 M3 rfl (d_subm hw (by decide +kernel)) (fun h2 F2 f2 M2 _ _ => ?_)
  have a7 : F2 7 = (s : Int) := by rw [f2, m_uN _ _ _ _ (by decide)]; exact e7
  have a8 : F2 8 = (n : Int) := by rw [f2, m_uN _ _ _ _ (by decide)]; exact e8
  have a9 : F2 9 = (s : Int) := by rw [f2, m_uE]; exact e7
  have ao : ∀ K, K ≠ 7 → K ≠ 9 → F2 K = F K := fun K h7 h9 => by rw [f2, m_uN _ _ _ _ h9]; exact o3 K h7
  refine c_see M2 a7 a8 (fun c hc => s_tk43 (z := c.toInt) M2 rfl rfl (fun lv1 d0 d1 => s_tk44 M2 d0 d1 rfl (d_subm hw (by decide +kernel)) (fun h1 y1 x2 q2 x4 q4 x5 q5 lv3 M1 d0 d1 d2 c0 => ?_) (fun h1 y1 h7 F7 f7 lv3 M7 c0 => ?_)))
  · have sn : s < n := by omega
    refine c_in M1 rfl q4 q5 (fun z hz => s_tk71 (z := z.toInt) M1 d0 d1 rfl d2 q2 rfl (fun xa pa xb pb z0 => ?_) (fun z1 => ?_))
    · have hal : rd_al (V 1 s) = false := rd_alF.mpr (by omega)
      refine c_in M1 rfl pa pb (fun y hy => s_tk155 (z := y.toInt) M1 d0 d1 rfl d2 q2 rfl (d_subm hw (by decide +kernel)) (fun y0 => ?_) (fun h6 F6 f6 M6 y0 => ?_))
      · have hdg : rd_dg (V 1 s) = false := rd_dgF.mpr (by omega)
        rw [rd_tk3 hs sn hal hdg] at g
        refine s_tk241 M1 d0 d1 rfl d2 q2 (by omega) (d_subm hw (by decide +kernel)) (fun h4 F4 f4 h5 F5 f5 M5 _ _ c59 => ?_) (fun h4 F4 f4 h5 F5 f5 M5 _ _ c59 => ?_)
        · rw [if_neg (by omega)] at g
          exact g h5 F5 M5 (by rw [f5, m_uN _ _ _ _ (by decide), f4, m_uN _ _ _ _ (by decide)]; exact a9) (by rw [f5, m_uN _ _ _ _ (by decide), f4, m_uE, a7]; rfl) (by rw [f5, m_uE]; rfl) (fun y => absurd (show (4 : Int) = 2 from y) (by decide)) (fun y => absurd (show (4 : Int) = 1 from y) (by decide)) (fun K k7 k9 k10 k11 => by rw [f5, m_uN _ _ _ _ k10, f4, m_uN _ _ _ _ k7]; exact ao K k7 k9)
        · rw [if_pos (by omega)] at g
          exact g h5 F5 M5 (by rw [f5, m_uN _ _ _ _ (by decide), f4, m_uN _ _ _ _ (by decide)]; exact a9) (by rw [f5, m_uN _ _ _ _ (by decide), f4, m_uE, a7]; rfl) (by rw [f5, m_uE]; rfl) (fun y => absurd (show (3 : Int) = 2 from y) (by decide)) (fun y => absurd (show (3 : Int) = 1 from y) (by decide)) (fun K k7 k9 k10 k11 => by rw [f5, m_uN _ _ _ _ k10, f4, m_uN _ _ _ _ k7]; exact ao K k7 k9)
      · have hdg : rd_dg (V 1 s) = true := rd_dgT.mpr (by omega)
        have hb9 := rd_goB (f := rd_dg) (T := V 1) (n - s) s
        have hs9 : s < rd_go rd_dg (V 1) (n - s) s := by
          have e : n - s = (n - s - 1) + 1 := by omega
          rw [e, rd_goS hdg]
          have := (rd_goB (f := rd_dg) (T := V 1) (n - s - 1) (s + 1)).1
          omega
        rw [rd_tk2 hs sn hal hdg] at g
        refine l_mnb (S := rd_go rd_dg (V 1) (n - s) s) (s := s) (n := n) (F0 := F6) (d_subm hw (by decide +kernel)) rfl (fun lv h9 F9 xk M9 r7 rv ro rk i0 i1 i2 => ?_) (n - s) 0 lv3 h6 F6 x2 (by omega) n6 M6 (by rw [f6, m_uN _ _ _ _ (by decide)]; exact a8) (by rw [f6, m_uN _ _ _ _ (by decide)]; exact a7) (fun _ => by rw [f6, m_uE]) (fun y => by omega) (fun y => by omega) (fun _ _ _ => rfl) q2 d0 d1 d2 rfl
        have r9 : F9 9 = (s : Int) := by rw [ro 9 (by decide) (by decide), f6, m_uN _ _ _ _ (by decide)]; exact a9
        refine s_tk224 M9 i0 i1 rfl i2 rk (d_subm hw (by decide +kernel)) (fun h4 F4 f4 M4 ck => ?_) (fun h4 F4 f4 M4 ck => ?_)
        · have ck2 : rd_go rd_dg (V 1) (n - s) s - s ≤ 2 := by omega
          rw [if_pos ck2] at g
          exact g h4 F4 M4 (by rw [f4, m_uN _ _ _ _ (by decide)]; exact r9) (by rw [f4, m_uN _ _ _ _ (by decide)]; exact r7) (by rw [f4, m_uE]; rfl) (fun _ => by rw [f4, m_uN _ _ _ _ (by decide)]; exact rv hs9 ck2) (fun y => absurd (show (2 : Int) = 1 from y) (by decide)) (fun K k7 k9 k10 k11 => by rw [f4, m_uN _ _ _ _ k10, ro K k7 k11, f6, m_uN _ _ _ _ k11]; exact ao K k7 k9)
        · have ck2 : ¬ rd_go rd_dg (V 1) (n - s) s - s ≤ 2 := by omega
          rw [if_neg ck2] at g
          exact g h4 F4 M4 (by rw [f4, m_uN _ _ _ _ (by decide)]; exact r9) (by rw [f4, m_uN _ _ _ _ (by decide)]; exact r7) (by rw [f4, m_uE]; rfl) (fun y => absurd (show (4 : Int) = 2 from y) (by decide)) (fun y => absurd (show (4 : Int) = 1 from y) (by decide)) (fun K k7 k9 k10 k11 => by rw [f4, m_uN _ _ _ _ k10, ro K k7 k11, f6, m_uN _ _ _ _ k11]; exact ao K k7 k9)
    · have hal : rd_al (V 1 s) = true := rd_alT.mpr (by omega)
      have hb9 := rd_goB (f := rd_al) (T := V 1) (n - s) s
      rw [rd_tk1 hs sn hal] at g
      refine l_mwd (S := rd_go rd_al (V 1) (n - s) s) (s := s) (n := n) (F0 := F2) (d_subm hw (by decide +kernel)) rfl (fun lv h9 F9 w xk M9 r7 ro wl rk wj hl i0 i1 i2 => ?_) (n - s) 0 lv3 h1 F2 _ x2 (by omega) n6 M1 a8 a7 (fun _ _ => rfl) y1 q2 (fun _ => rfl) (fun i hi => absurd hi (Nat.not_lt_zero i)) d0 d1 d2 rfl
      have r9 : F9 9 = (s : Int) := by rw [ro 9 (by decide)]; exact a9
      have fin : ∀ (h5 : MH), MX 49 W ρ m A h0 h5 F9 V G → wd_ok (h_l h5 m 12) (V 1) s (rd_go rd_al (V 1) (n - s) s) → HJ 190 139 lv [] h5 Q := fun h5 M5 ok => s_tk139 (MX.again M5 [(49, 10)]) i0 (by decide +kernel) (fun h4 F4 f4 M4 => g h4 F4 (M5.re M4 (d_subm hw (by decide +kernel))) (by rw [f4, m_uN _ _ _ _ (by decide)]; exact r9) (by rw [f4, m_uN _ _ _ _ (by decide)]; exact r7) (by rw [f4, m_uE]; rfl) (fun y => absurd (show (1 : Int) = 2 from y) (by decide)) (fun _ => by rw [M4.lf (k := 12) (by decide) (by decide +kernel)]; exact ok) (fun K k7 k9 k10 k11 => by rw [f4, m_uN _ _ _ _ k10, ro K k7]; exact ao K k7 k9))
      refine s_tk121 (w := w) M9 i0 i1 rfl i2 rk wl (d_subm hw (by decide +kernel)) (fun h5 y5 M5 ck => fin h5 M5 ?_) (fun h5 y5 M5 ck => fin h5 M5 ?_)
      · rw [y5]
        exact wd_lo hb9.1 (wj (by omega)) (by omega) hl
      · rw [y5]
        exact wd_hi rfl (by omega)
  · have sn : n ≤ s := by omega
    have es : rd_tk (V 1) n p = (s, (s, (0, -1))) := by
      rw [← hs]
      exact rd_tk0 (by omega)
    rw [es] at g
    exact g h7 F7 M7 (by rw [f7, m_uN _ _ _ _ (by decide)]; exact a9) (by rw [f7, m_uN _ _ _ _ (by decide)]; exact a7) (by rw [f7, m_uE]; rfl) (fun y => absurd (show (0 : Int) = 2 from y) (by decide)) (fun y => absurd (show (0 : Int) = 1 from y) (by decide)) (fun K k7 k9 k10 k11 => by rw [f7, m_uN _ _ _ _ k10]; exact ao K k7 k9)
end
