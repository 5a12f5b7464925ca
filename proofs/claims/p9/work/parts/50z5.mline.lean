-- A LINE, AS THE REFERENCE READS IT
theorem td_beg {U : Nat → Int} {c g : Nat} {v : Int} {t : Nat → Int} (h : td_ok U c g t) : td_ok (m_u (m_u (m_u (m_u U (4 * g + 1) v) (4 * g + 2) (-1)) (4 * g + 3) (-1)) (4 * g + 4) (-1)) c (g + 1) (rd_bt g v t) := by
  unfold rd_bt
  refine ⟨by rw [m_uN _ _ _ _ (by omega), m_uN _ _ _ _ (by omega), m_uN _ _ _ _ (by omega), m_uN _ _ _ _ (by omega)]; exact h.1, fun k hk kg i hi => ?_⟩
  by_cases e : k = g
  · subst e
    rcases (show i = 0 ∨ i = 1 ∨ i = 2 ∨ i = 3 by omega) with rfl | rfl | rfl | rfl
    · rw [show 4 * k + 1 + 0 = 4 * k + 1 from rfl]
      rw [m_uN _ _ _ _ (by omega), m_uN _ _ _ _ (by omega), m_uN _ _ _ _ (by omega), m_uE, m_uN _ _ _ _ (by omega), m_uN _ _ _ _ (by omega), m_uN _ _ _ _ (by omega), m_uE]
    · rw [show 4 * k + 1 + 1 = 4 * k + 2 from rfl]
      rw [m_uN _ _ _ _ (by omega), m_uN _ _ _ _ (by omega), m_uE, m_uN _ _ _ _ (by omega), m_uN _ _ _ _ (by omega), m_uE]
    · rw [show 4 * k + 1 + 2 = 4 * k + 3 from rfl]
      rw [m_uN _ _ _ _ (by omega), m_uE, m_uN _ _ _ _ (by omega), m_uE]
    · rw [show 4 * k + 1 + 3 = 4 * k + 4 from rfl]
      rw [m_uE, m_uE]
  · rw [m_uN _ _ _ _ (by omega), m_uN _ _ _ _ (by omega), m_uN _ _ _ _ (by omega), m_uN _ _ _ _ (by omega), m_uN _ _ _ _ (by omega), m_uN _ _ _ _ (by omega), m_uN _ _ _ _ (by omega), m_uN _ _ _ _ (by omega)]
    exact h.2 k hk (by omega) i hi
section
variable {lv : List (Nat × Value)} {Q : Option Value → MH → Prop} {W : List (Nat × Nat)} {ρ : Nat → Nat} {m : Nat} {A : Nat → Nat} {h0 h : MH} {F : Nat → Int} {V : Nat → Nat → Int} {G : Nat → Nat → Int64}
theorem c_sto9 {s : Int} (M : MX 49 W ρ m A h0 h F V G) (hw : d_sub w_ml W = true) (k9 : F 9 = s) (g : ∀ (x : Int32) (h' : MH) (F' : Nat → Int), x.toInt = 0 → MX 49 W ρ m A h0 h' F' V G → F' 13 = s → Q (some (.int x)) h') : HJ 193 0 (lv_args 0 [.ref m]) [] h Q :=
  s_sto M rfl (d_subm hw (by decide +kernel)) (fun h2 F2 f2 x3 q3 M2 _ _ => g x3 h2 F2 q3 M2 (by rw [f2, m_uE]; exact k9))
-- what an act begun leaves told
theorem l_mtold {V0 : Nat → Nat → Int} {k : Int} {xk : Int32} (hw : d_sub w_ml W = true) (qk : xk.toInt = k) (c : Nat) (c40 : c < 40) (g : ∀ (lv : List (Nat × Value)) (h' : MH) (V' : Nat → Nat → Int), MX 49 W ρ m A h0 h' F V' G → (∀ K, K ≠ 16 → V' K = V0 K) → V' 16 = m_u (m_u (m_u (m_u (V0 16) (4 * c + 1) k) (4 * c + 2) (-1)) (4 * c + 3) (-1)) (4 * c + 4) (-1) → h_l h' m 12 = h_l h m 12 → m_lk lv 0 = some (.ref m) → m_lk lv 4 = some (.int xk) → HJ 192 179 lv [] h' Q) {x0 : Int32} {lv : List (Nat × Value)} (M : MX 49 W ρ m A h0 h F V0 G) (q0 : x0.toInt = 0) (u0 : V0 16 0 = (c : Int)) (e0 : m_lk lv 0 = some (.ref m)) (e4 : m_lk lv 4 = some (.int xk)) (e5 : m_lk lv 5 = some (.int x0)) : HJ 192 127 lv [] h Q := by
  have stay : ∀ (h1 h2 : MH) (V1 V2 : Nat → Nat → Int), MX 49 W ρ m A h0 h1 F V1 G → MX 49 [(56, 1001)] ρ m A h1 h2 F V2 G → h_l h2 m 12 = h_l h1 m 12 := fun h1 h2 V1 V2 M1 M2 => M2.lf (by decide) (by decide +kernel)
  have b0 : 0 ≤ V0 16 0 ∧ V0 16 0 ≤ 40 := by omega
  refine s_ml127 (MX.again M [(56, 1001)]) e0 e4 qk e5 q0 (by decide) b0.1 b0.2 (by decide +kernel) (fun z => by omega) (fun _ z => by have z : V0 16 0 ≥ 40 := z; omega) (fun _ _ _ _ _ _ _ _ _ _ _ _ z => absurd rfl z) (fun h1 V1 f1 x1 q1 lv1 M1 a0 a4 a5 _ _ _ => ?_)
  have j1 : ((1 + (4 * (V0 16 0))) + (0 : Int)).toNat = 4 * c + 1 := by omega
  have f1 : V1 = m_u V0 16 (m_u (V0 16) ((1 + (4 * (V0 16 0))) + (0 : Int)).toNat k) := f1
  rw [j1] at f1
  have y1 : V1 16 0 = (c : Int) := by rw [f1, m_uE, m_uN _ _ _ _ (by omega)]; exact u0
  have b1 : 0 ≤ V1 16 0 ∧ V1 16 0 ≤ 40 := by omega
  have q1 : x1.toInt = 1 := q1
  have N1 := M.re M1 (d_subm hw (by decide +kernel))
  refine s_ml127 (MX.again N1 [(56, 1001)]) a0 a4 qk a5 q1 (by decide) b1.1 b1.2 (by decide +kernel) (fun z => by omega) (fun _ z => by have z : V1 16 0 ≥ 40 := z; omega) (fun h2 V2 f2 x2 q2 lv2 M2 a0 a4 a5 _ _ _ => ?_) (fun _ _ _ _ _ _ _ _ _ _ _ _ z => by omega)
  have j2 : ((1 + (4 * (V1 16 0))) + (1 : Int)).toNat = 4 * c + 2 := by omega
  have f2 : V2 = m_u V1 16 (m_u (V1 16) ((1 + (4 * (V1 16 0))) + (1 : Int)).toNat (-1)) := f2
  rw [j2] at f2
  have y2 : V2 16 0 = (c : Int) := by rw [f2, m_uE, m_uN _ _ _ _ (by omega)]; exact y1
  have b2 : 0 ≤ V2 16 0 ∧ V2 16 0 ≤ 40 := by omega
  have q2 : x2.toInt = 2 := q2
  have N2 := N1.re M2 (d_subm hw (by decide +kernel))
  refine s_ml127 (MX.again N2 [(56, 1001)]) a0 a4 qk a5 q2 (by decide) b2.1 b2.2 (by decide +kernel) (fun z => by omega) (fun _ z => by have z : V2 16 0 ≥ 40 := z; omega) (fun h3 V3 f3 x3 q3 lv3 M3 a0 a4 a5 _ _ _ => ?_) (fun _ _ _ _ _ _ _ _ _ _ _ _ z => by omega)
  have j3 : ((1 + (4 * (V2 16 0))) + (2 : Int)).toNat = 4 * c + 3 := by omega
  have f3 : V3 = m_u V2 16 (m_u (V2 16) ((1 + (4 * (V2 16 0))) + (2 : Int)).toNat (-1)) := f3
  rw [j3] at f3
  have y3 : V3 16 0 = (c : Int) := by rw [f3, m_uE, m_uN _ _ _ _ (by omega)]; exact y2
  have b3 : 0 ≤ V3 16 0 ∧ V3 16 0 ≤ 40 := by omega
  have q3 : x3.toInt = 3 := q3
  have N3 := N2.re M3 (d_subm hw (by decide +kernel))
  refine s_ml127 (MX.again N3 [(56, 1001)]) a0 a4 qk a5 q3 (by decide) b3.1 b3.2 (by decide +kernel) (fun z => by omega) (fun _ z => by have z : V3 16 0 ≥ 40 := z; omega) (fun h4 V4 f4 x4 q4 lv4 M4 a0 a4 a5 _ _ _ => ?_) (fun _ _ _ _ _ _ _ _ _ _ _ _ z => by omega)
  have j4 : ((1 + (4 * (V3 16 0))) + (3 : Int)).toNat = 4 * c + 4 := by omega
  have f4 : V4 = m_u V3 16 (m_u (V3 16) ((1 + (4 * (V3 16 0))) + (3 : Int)).toNat (-1)) := f4
  rw [j4] at f4
  have y4 : V4 16 0 = (c : Int) := by rw [f4, m_uE, m_uN _ _ _ _ (by omega)]; exact y3
  have b4 : 0 ≤ V4 16 0 ∧ V4 16 0 ≤ 40 := by omega
  have q4 : x4.toInt = 4 := q4
  have N4 := N3.re M4 (d_subm hw (by decide +kernel))
  have el : h_l h4 m 12 = h_l h m 12 := (stay h3 h4 V3 V4 N3 M4).trans ((stay h2 h3 V2 V3 N2 M3).trans ((stay h1 h2 V1 V2 N1 M2).trans (stay h h1 V0 V1 M M1)))
  refine s_ml127 N4 a0 a4 qk a5 q4 (by decide) b4.1 b4.2 (d_subm hw (by decide +kernel)) (fun _ => g lv4 h4 V4 N4 (fun K hK => ?_) ?_ el a0 a4) (fun z _ => by omega) (fun _ _ _ _ _ _ _ _ _ _ z _ _ => by omega) (fun _ _ _ _ _ _ _ _ _ _ z _ _ => by omega)
  · rw [f4, m_uN _ _ _ _ hK, f3, m_uN _ _ _ _ hK, f2, m_uN _ _ _ _ hK, f1, m_uN _ _ _ _ hK]
  · rw [f4, m_uE, f3, m_uE, f2, m_uE, f1, m_uE]
theorem c_mline {V0 : Nat → Nat → Int} {n : Nat} {S : RLS} {xp : Int32} (hw : d_sub w_ml W = true) (B : MMr W ρ m A h0 V0 G n (ls_g S) S h) (qp : xp.toInt = (rt_s (rd_tk (V0 1) n (ls_p S)) : Int)) (ne : rt_t (rd_tk (V0 1) n (ls_p S)) ≠ 0)
    (g1 : (rt_t (rd_tk (V0 1) n (ls_p S)) = 1 ∧ 0 ≤ rt_v (rd_tk (V0 1) n (ls_p S))) → (rd_nums (V0 1) n (rd_lim (rt_v (rd_tk (V0 1) n (ls_p S)))) 0 (rd_beg (rd_tk (V0 1) n (ls_p S)) S)).1 = true → ∀ (x : Int32) (h' : MH), x.toInt = 1 → MMr W ρ m A h0 V0 G n (ls_g (rd_nums (V0 1) n (rd_lim (rt_v (rd_tk (V0 1) n (ls_p S)))) 0 (rd_beg (rd_tk (V0 1) n (ls_p S)) S)).2) (rd_nums (V0 1) n (rd_lim (rt_v (rd_tk (V0 1) n (ls_p S)))) 0 (rd_beg (rd_tk (V0 1) n (ls_p S)) S)).2 h' → Q (some (.int x)) h')
    (g0 : ∀ (x : Int32) (h' : MH) (s : Int), x.toInt = 0 → (¬ (rt_t (rd_tk (V0 1) n (ls_p S)) = 1 ∧ 0 ≤ rt_v (rd_tk (V0 1) n (ls_p S))) ∧ s = (rt_s (rd_tk (V0 1) n (ls_p S)) : Int)) ∨ ((rt_t (rd_tk (V0 1) n (ls_p S)) = 1 ∧ 0 ≤ rt_v (rd_tk (V0 1) n (ls_p S))) ∧ (rd_nums (V0 1) n (rd_lim (rt_v (rd_tk (V0 1) n (ls_p S)))) 0 (rd_beg (rd_tk (V0 1) n (ls_p S)) S)).1 = false ∧ s = ls_l (rd_nums (V0 1) n (rd_lim (rt_v (rd_tk (V0 1) n (ls_p S)))) 0 (rd_beg (rd_tk (V0 1) n (ls_p S)) S)).2) → MBr W ρ m A h0 V0 G s h' → Q (some (.int x)) h') : HJ 192 0 (lv_args 0 [.ref m, .int xp]) [] h Q := by
  obtain ⟨F, V, M, vo, ⟨k8, k7, k9, k10, k11, k12⟩, ⟨f14, f15⟩, td, pn⟩ := B
  have tb := rd_tkB (T := V0 1) (n := n) (p := ls_p S) pn
  generalize hq : rd_tk (V0 1) n (ls_p S) = q at k8 k7 k9 k10 k11 k12 g1 g0 qp ne tb
  obtain ⟨⟨t1, t2, t3⟩, t4, t5, t6, t7, t8⟩ := tb
  obtain ⟨u0, u1, u2, u3, u4⟩ := td_0 td
  obtain ⟨n1, n2, n3, n4, n5⟩ := rd_begE (q := q) (S := S)
  have sm := (rt_mE (t := rt_t q)).2.1
  -- behind the kind
  have kind : ∀ (lv : List (Nat × Value)) (xk : Int32), xk.toInt = (if rt_t q = 1 then rt_v q else -1) → m_lk lv 0 = some (.ref m) → m_lk lv 1 = some (.int xp) → m_lk lv 4 = some (.int xk) → HJ 192 92 lv [] h Q := fun lv xk qk e0 e1 e4 => by
    refine s_ml92 M e0 e1 qp e4 rfl (fun c95 => ?_) (fun c95 => ?_)
    · have ok : rt_t q = 1 ∧ 0 ≤ rt_v q := by
        by_cases e : rt_t q = 1
        · rw [if_pos e] at qk
          have := t7 e
          exact ⟨e, by omega⟩
        · rw [if_neg e] at qk
          exact absurd qk c95
      rw [if_pos ok.1] at qk
      have b7 := t7 ok.1
      have s4 := t4 ne
      generalize hR : rd_nums (V0 1) n (rd_lim (rt_v q)) 0 (rd_beg q S) = R at g1 g0
      -- the ends
      have fin0 : ∀ (lv : List (Nat × Value)) (h' : MH) (xf : Int32), R.1 = false → MBr W ρ m A h0 V0 G (ls_l R.2) h' → xf.toInt = 0 → m_lk lv 0 = some (.ref m) → m_lk lv 5 = some (.int xf) → HJ 192 268 lv [] h' Q := fun lv h' xf hf ⟨F', V', M', vo', f13, y0, y1⟩ qf e0 e5 => by
        refine s_ml268 M' e0 e5 qf (by decide) (by decide) y0 y1 (d_subm hw (by decide +kernel)) (fun h5 V5 f5 M5 _ => g0 xf h5 _ qf (Or.inr ⟨ok, hf, rfl⟩) ⟨F', V5, M5, fun K hK => by rw [f5, m_uN _ _ _ _ hK]; exact vo' K hK, f13, ?_, ?_⟩) (fun _ _ _ _ z => absurd rfl z) (fun _ _ _ _ z => absurd rfl z)
        · rw [f5, m_uE, show (0 : Int).toNat = 0 from rfl, m_uE]
          omega
        · rw [f5, m_uE, show (0 : Int).toNat = 0 from rfl, m_uE]
          omega
      have fin1 : ∀ (lv : List (Nat × Value)) (h' : MH) (S' : RLS) (xf : Int32), (true, S') = R → MMr W ρ m A h0 V0 G n (ls_g S) S' h' → ls_g S' = ls_g S + 1 → xf.toInt = 1 → m_lk lv 0 = some (.ref m) → m_lk lv 5 = some (.int xf) → HJ 192 268 lv [] h' Q := fun lv h' S' xf eR ⟨F', V', M', vo', tk', fl', td', pn'⟩ gS qf e0 e5 => by
        rw [← eR] at g1
        obtain ⟨y0, y1, y2, y3, y4⟩ := td_0 td'
        have up : ∀ v : Int, v = (((if ls_g S' ≤ 40 then ls_g S' else 40) : Nat) : Int) → td_ok (m_u (V' 16) 0 v) (ls_g S') (ls_g S') (ls_t S') := fun v hv => ⟨by rw [m_uE]; exact hv, fun k hk kg i hi => by rw [m_uN _ _ _ _ (by omega)]; exact td'.2 k hk kg i hi⟩
        have hl : ∀ (h1 : MH) (V1 : Nat → Nat → Int), MX 49 [(56, 1001)] ρ m A h' h1 F' V1 G → h_l h1 m 12 = h_l h' m 12 := fun h1 V1 M1 => M1.lf (by decide) (by decide +kernel)
        refine s_ml268 (MX.again M' [(56, 1001)]) e0 e5 qf (by decide) (by decide) y0 y1 (by decide +kernel) (fun _ _ _ _ z => absurd z (by decide)) (fun h5 V5 f5 M5 _ z => ?_) (fun h5 V5 f5 M5 _ z => ?_)
        · have z : V' 16 0 ≥ 40 := z
          have f5 : V5 = m_u V' 16 (m_u (V' 16) 0 (V' 16 0 + 0)) := f5
          refine g1 ok rfl xf h5 qf ⟨F', V5, M'.re M5 (d_subm hw (by decide +kernel)), fun K hK => by rw [f5, m_uN _ _ _ _ hK]; exact vo' K hK, by rw [hl h5 V5 M5]; exact tk', fl', ?_, pn'⟩
          rw [f5, m_uE]
          refine up _ ?_
          show _ = (((if ls_g S' ≤ 40 then ls_g S' else 40) : Nat) : Int)
          split <;> omega
        · have z : V' 16 0 < 40 := z
          have f5 : V5 = m_u V' 16 (m_u (V' 16) 0 (V' 16 0 + 1)) := f5
          refine g1 ok rfl xf h5 qf ⟨F', V5, M'.re M5 (d_subm hw (by decide +kernel)), fun K hK => by rw [f5, m_uN _ _ _ _ hK]; exact vo' K hK, by rw [hl h5 V5 M5]; exact tk', fl', ?_, pn'⟩
          rw [f5, m_uE]
          have := y3 (y2.mp z)
          refine up _ ?_
          show _ = (((if ls_g S' ≤ 40 then ls_g S' else 40) : Nat) : Int)
          split <;> omega
      -- the numbers
      have nums : ∀ (lv : List (Nat × Value)) (h' : MH), MMr W ρ m A h0 V0 G n (ls_g S) (rd_beg q S) h' → m_lk lv 0 = some (.ref m) → m_lk lv 4 = some (.int xk) → HJ 192 179 lv [] h' Q := fun lv h' B e0 e4 => by
        obtain ⟨F', V', M', -⟩ := id B
        have third : ∀ (lv : List (Nat × Value)) (h' : MH) (S' : RLS) (x : Int32), x.toInt = 1 → MMr W ρ m A h0 V0 G n (ls_g S) S' h' → ls_g S' = ls_g S + 1 → rd_nums (V0 1) n ((rd_lim (rt_v q)).drop 2) 2 S' = R → (rt_v q = 3 → (true, S') = R) → (rt_v q = 0 → (true, S') = R) → m_lk lv 0 = some (.ref m) → m_lk lv 4 = some (.int xk) → m_lk lv 5 = some (.int x) → HJ 192 248 lv [] h' Q := fun lv h' S' x qx B gS eR e3 e9 e0 e4 e5 => by
          obtain ⟨F', V', M', -⟩ := id B
          refine s_ml248 M' e0 e4 qk e5 qx (fun z => absurd z (by decide)) (fun _ z => ?_) (fun x2 q2 x3 q3 _ z => ?_)
          · refine fin1 lv h' S' x ?_ B gS qx e0 e5
            rcases (show rt_v q = 0 ∨ rt_v q = 1 ∨ rt_v q = 2 ∨ rt_v q = 3 ∨ rt_v q = 5 by omega) with v | v | v | v | v
            · exact e9 v
            · rw [v] at eR
              exact eR
            · rw [v] at eR
              exact eR
            · exact e3 v
            · rw [v] at eR
              exact eR
          · rw [z] at eR
            exact c_take (i := 2) (hi := 99) (l := []) hw B gS q2 (by decide) q3 eR (fun y h5 S5 qy B5 g5 eR5 => by
              obtain ⟨F5, V5, M5, -⟩ := id B5
              exact s_ml266 M5 e0 e4 qk qy (fun lv1 d0 d4 d5 => fin1 lv1 h5 S5 y eR5 B5 g5 qy d0 d5)) (fun y h5 qy hf B5 => by
              obtain ⟨F5, V5, M5, -⟩ := id B5
              exact s_ml266 M5 e0 e4 qk qy (fun lv1 d0 d4 d5 => fin0 lv1 h5 y hf B5 qy d0 d5))
        have bad : ∀ (lv : List (Nat × Value)) (h' : MH) (x : Int32), x.toInt = 0 → R.1 = false → MBr W ρ m A h0 V0 G (ls_l R.2) h' → m_lk lv 0 = some (.ref m) → m_lk lv 4 = some (.int xk) → m_lk lv 5 = some (.int x) → HJ 192 248 lv [] h' Q := fun lv h' x qx hf B e0 e4 e5 => by
          obtain ⟨F', V', M', -⟩ := id B
          exact s_ml248 M' e0 e4 qk e5 qx (fun _ => fin0 lv h' x hf B qx e0 e5) (fun z _ => absurd rfl z) (fun _ _ _ _ z _ => absurd rfl z)
        have two : ∀ (hi : Int) (lv : List (Nat × Value)) (h' : MH) (S' : RLS) (x2 x5 : Int32), x2.toInt = 2 → x5.toInt = hi → rd_nums (V0 1) n (hi :: (rd_lim (rt_v q)).drop 2) 1 S' = R → rt_v q ≠ 3 → rt_v q ≠ 0 → MMr W ρ m A h0 V0 G n (ls_g S) S' h' → ls_g S' = ls_g S + 1 → m_lk lv 0 = some (.ref m) → m_lk lv 4 = some (.int xk) → HJ 195 0 (lv_args 0 [.ref m, .int x2, .int x5]) [] h' (fun v h' => HJ 192 246 lv (v.toList ++ []) h' Q) := fun hi lv h' S' x2 x5 q2 q5 eR v3 v0 B gS e0 e4 =>
          c_take (i := 1) hw B gS q2 (by decide) q5 eR (fun y h5 S5 qy B5 g5 eR5 => by
            obtain ⟨F5, V5, M5, -⟩ := id B5
            exact s_ml246 M5 e0 e4 qk qy (fun lv1 d0 d4 d5 => third lv1 h5 S5 y qy B5 g5 eR5 (fun z => absurd z v3) (fun z => absurd z v0) d0 d4 d5)) (fun y h5 qy hf B5 => by
            obtain ⟨F5, V5, M5, -⟩ := id B5
            exact s_ml246 M5 e0 e4 qk qy (fun lv1 d0 d4 d5 => bad lv1 h5 y qy hf B5 d0 d4 d5))
        have second : ∀ (lv : List (Nat × Value)) (h' : MH) (S' : RLS) (x : Int32), x.toInt = 1 → rt_v q ≠ 0 → MMr W ρ m A h0 V0 G n (ls_g S) S' h' → ls_g S' = ls_g S + 1 → rd_nums (V0 1) n ((rd_lim (rt_v q)).drop 1) 1 S' = R → m_lk lv 0 = some (.ref m) → m_lk lv 4 = some (.int xk) → m_lk lv 5 = some (.int x) → HJ 192 201 lv [] h' Q := fun lv h' S' x qx v0 B gS eR e0 e4 e5 => by
          obtain ⟨F', V', M', -⟩ := id B
          refine s_ml201 M' e0 e4 qk e5 qx (fun z => absurd z (by decide)) (fun _ z => absurd z v0) (fun _ _ z => ?_) (fun x2 q2 x5 q5 _ _ z3 z2 z4 => ?_) (fun x2 q2 x5 q5 _ _ z3 z2 z4 => ?_) (fun x2 q2 x5 q5 _ _ z3 z2 => ?_)
          · have eR3 : (true, S') = R := by
              rw [z] at eR
              exact eR
            refine third lv h' S' x qx B gS ?_ (fun _ => eR3) (fun y => absurd y v0) e0 e4 e5
            rw [z]
            exact eR3
          · refine two 99 lv h' S' x2 x5 q2 q5 ?_ z3 v0 B gS e0 e4
            rcases (show rt_v q = 1 ∨ rt_v q = 5 by omega) with v | v
            · rw [v] at eR ⊢
              exact eR
            · rw [v] at eR ⊢
              exact eR
          · refine two 39 lv h' S' x2 x5 q2 q5 ?_ z3 v0 B gS e0 e4
            rw [z4] at eR ⊢
            exact eR
          · refine two 40 lv h' S' x2 x5 q2 q5 ?_ z3 v0 B gS e0 e4
            rw [z2] at eR ⊢
            exact eR
        refine s_ml179 M' e0 e4 qk (fun x1 q1 lv2 d0 d4 d5 z => ?_) (fun x3 q3 x4 q4 z => ?_)
        · have eR9 : (true, rd_beg q S) = R := by
            rw [z] at hR
            exact hR
          refine s_ml201 M' d0 d4 qk d5 q1 (fun z => absurd z (by decide)) (fun _ _ => third lv2 h' (rd_beg q S) x1 q1 B n2 ?_ (fun y => by omega) (fun _ => eR9) d0 d4 d5) (fun _ y _ => absurd z y) (fun _ _ _ _ _ y _ _ _ => absurd z y) (fun _ _ _ _ _ y _ _ _ => absurd z y) (fun _ _ _ _ _ y _ _ => absurd z y)
          rw [z]
          exact eR9
        · have eR1 : rd_nums (V0 1) n (40 :: (rd_lim (rt_v q)).drop 1) 0 (rd_beg q S) = R := by
            rw [← hR]
            rcases (show rt_v q = 1 ∨ rt_v q = 2 ∨ rt_v q = 3 ∨ rt_v q = 4 ∨ rt_v q = 5 by omega) with v | v | v | v | v <;> (rw [v]; rfl)
          exact c_take (i := 0) (hi := 40) hw B n2 q3 (by decide) q4 eR1 (fun y h5 S5 qy B5 g5 eR5 => by
            obtain ⟨F5, V5, M5, -⟩ := id B5
            exact s_ml191 M5 e0 e4 qk qy (fun _ _ _ _ _ _ y => absurd y (by decide)) (fun x5 q5 lv4 d0 d4 d5 _ => second lv4 h5 S5 x5 q5 z B5 g5 eR5 d0 d4 d5)) (fun y h5 qy hf B5 => by
            obtain ⟨F5, V5, M5, -⟩ := id B5
            exact s_ml191 M5 e0 e4 qk qy (fun x5 q5 lv4 d0 d4 d5 _ => s_ml201 M5 d0 d4 qk d5 q5 (fun _ => bad lv4 h5 x5 q5 hf B5 d0 d4 d5) (fun y => absurd rfl y) (fun y => absurd rfl y) (fun _ _ _ _ y => absurd rfl y) (fun _ _ _ _ y => absurd rfl y) (fun _ _ _ _ y => absurd rfl y)) (fun _ _ _ _ _ _ y => absurd rfl y))
      -- the act begun
      have beg : ∀ (h1 : MH) (F1 : Nat → Int), MX 49 W ρ m A h0 h1 F1 V G → (∀ K, K ≠ 14 → K ≠ 15 → F1 K = F K) → fl_ok F1 (rd_beg q S) → HJ 192 120 lv [] h1 Q := fun h1 F1 M1 o1 fl1 => by
        have b8 : F1 8 = (n : Int) := by rw [o1 8 (by decide) (by decide)]; exact k8
        have b7' : F1 7 = (rt_b q : Int) := by rw [o1 7 (by decide) (by decide)]; exact k7
        -- the token first (the reader's state at the old row), then the row
        refine s_ml120 M1 e0 e4 qk ?_
        refine c_mtk M1 (d_subm hw (by decide +kernel)) b8 b7' t3 (fun h2 F2 M2 a9 a7 a10 a11 a12 o2 => ?_)
        rw [vo 1 (by decide)] at a9 a7 a10 a11 a12
        have tk2 : tk_ok (V0 1) n (rd_tk (V0 1) n (ls_p (rd_beg q S))) F2 (h_l h2 m 12) := by
          rw [n1]
          exact ⟨by rw [o2 8 (by decide) (by decide) (by decide) (by decide)]; exact b8, a7, a9, a10, a11, a12⟩
        have fl2 : fl_ok F2 (rd_beg q S) := ⟨by rw [o2 14 (by decide) (by decide) (by decide) (by decide)]; exact fl1.1, fun z => by rw [o2 15 (by decide) (by decide) (by decide) (by decide)]; exact fl1.2 z⟩
        refine s_ml124 M2 e0 e4 qk (fun x1 q1 lv2 d0 d4 d5 => ?_)
        by_cases c40 : ls_g S < 40
        · refine l_mtold hw rfl (ls_g S) c40 (fun lv3 h3 V3 M3 vo3 v16 el i0 i4 => nums lv3 h3 ⟨F2, V3, M3, fun K hK => by rw [vo3 K hK]; exact vo K hK, by rw [el]; exact tk2, fl2, ?_, by rw [n1]; exact t3⟩ i0 i4) M2 q1 (u3 c40) d0 d4 d5
          rw [n2, n3, if_neg (by omega), v16, qk]
          exact td_beg td
        · have c4 : V 16 0 = 40 := u4 (by omega)
          refine s_ml127 M2 d0 d4 rfl d5 q1 (by decide) u0 u1 (d_subm hw (by decide +kernel)) (fun z => by omega) (fun _ _ => nums lv2 h2 ⟨F2, V, M2, vo, tk2, fl2, ?_, by rw [n1]; exact t3⟩ d0 d4) (fun _ _ _ _ _ _ _ _ _ _ _ z _ => by have z : V 16 0 < 40 := z; omega) (fun _ _ _ _ _ _ _ _ _ _ _ z _ => by have z : V 16 0 < 40 := z; omega)
          rw [n2, n3, if_pos (by omega)]
          exact ⟨td.1, fun k hk kg i hi => td.2 k hk (by omega) i hi⟩
      refine s_ml103 M e0 e1 qp e4 qk (fun c => ?_) (fun x4 q4 c => ?_)
      · have c : V 16 0 ≠ 40 := c
        have g40 : ls_g S < 40 := u2.mp (by omega)
        refine beg h F M (fun _ _ _ => rfl) ⟨by rw [n4, if_neg (fun z => by omega)]; exact f14, fun z => ?_⟩
        rw [n4, if_neg (fun z => by omega)] at z
        obtain ⟨y1, y2⟩ := f15 z
        rw [n5, n1, if_neg (fun z => by omega)]
        exact ⟨y1, by omega⟩
      · have c : V 16 0 = 40 := c
        have g40 : 40 ≤ ls_g S := by
          by_cases e : ls_g S < 40
          · have := u3 e
            omega
          · omega
        refine c_later M (d_subm hw (by decide +kernel)) q4 qp (fun z => ?_) (fun h1 F1 M1 _ a14 a15 o1 => beg h1 F1 M1 o1 ⟨?_, fun z => ?_⟩)
        · rw [f14] at z
          obtain ⟨y1, y2⟩ := f15 z
          omega
        · rw [a14, n4, f14]
          by_cases e : ls_f S = 0
          · rw [if_pos e, if_pos ⟨g40, e⟩]
          · rw [if_neg e, if_neg (fun z => e z.2)]
        · rw [a15, n5, n1, f14]
          by_cases e : ls_f S = 0
          · rw [if_pos e, if_pos ⟨g40, e⟩]
            exact ⟨rfl, by omega⟩
          · rw [if_neg e, if_neg (fun z => e z.2)]
            obtain ⟨y1, y2⟩ := f15 e
            exact ⟨y1, by omega⟩
    · have no : ¬ (rt_t q = 1 ∧ 0 ≤ rt_v q) := fun z => by
        rw [if_pos z.1] at qk
        omega
      exact c_sto9 M hw k9 (fun x3 h2 F2 q3 M2 f13 => s_ml102 q3 (by decide) (by decide) (g0 x3 h2 _ q3 (Or.inl ⟨no, rfl⟩) ⟨F2, V, M2, vo, f13, u0, u1⟩))
  refine s_ml0 M rfl rfl qp rfl (fun lv3 e0 e1 e2 _ _ c5 => ?_) (fun lv4 e0 e1 e2 _ _ c5 => ?_)
  · have no : rt_t q ≠ 1 := fun z => c5 (k10.trans (sm.mpr z))
    have nz : ∀ k : Nat, k < 6 → (lg_cmp (Int64.ofNat (0 : Fin 2).val) (Int64.ofNat (rd_W k))).toInt = 0 → False := fun k hk z => by
      have bk := rd_WB (k := k)
      exact rd_W0 hk ((l_ofN (by decide) (by omega)).mp (lg_0.mp z)).symm
    refine s_ml17 M e0 e1 qp e2 (fun x q lv a0 a1 a4 _ _ _ _ _ _ => kind lv x (by rw [if_neg no]; exact q) a0 a1 a4) (fun _ _ _ _ _ _ _ _ _ _ _ z => (nz 5 (by decide) z).elim) (fun _ _ _ _ _ _ _ _ _ _ z => (nz 4 (by decide) z).elim) (fun _ _ _ _ _ _ _ _ _ z => (nz 3 (by decide) z).elim) (fun _ _ _ _ _ _ _ _ z => (nz 2 (by decide) z).elim) (fun _ _ _ _ _ _ _ z => (nz 1 (by decide) z).elim) (fun _ _ _ _ _ _ z => (nz 0 (by decide) z).elim)
  · have is : rt_t q = 1 := sm.mp (k10.symm.trans c5)
    have w := k12 is
    have kd := (t7 is).2.2
    have hit : ∀ (k : Nat) (x : Int32), k < 6 → (lg_cmp (h_l h m 12) (Int64.ofNat (rd_W k))).toInt = 0 → x.toInt = (k : Int) → x.toInt = (if rt_t q = 1 then rt_v q else -1) := fun k x hk z qx => by
      rw [if_pos is, kd, wd_kd w hk (lg_0.mp z)]
      exact qx
    refine s_ml17 M e0 e1 qp e2 (fun x q lv a0 a1 a4 z0 z1 z2 z3 z4 z5 => kind lv x ?_ a0 a1 a4) (fun x q lv a0 a1 a4 _ _ _ _ _ z => kind lv x (hit 5 x (by decide) z q) a0 a1 a4) (fun x q lv a0 a1 a4 _ _ _ _ z => kind lv x (hit 4 x (by decide) z q) a0 a1 a4) (fun x q lv a0 a1 a4 _ _ _ z => kind lv x (hit 3 x (by decide) z q) a0 a1 a4) (fun x q lv a0 a1 a4 _ _ z => kind lv x (hit 2 x (by decide) z q) a0 a1 a4) (fun x q lv a0 a1 a4 _ z => kind lv x (hit 1 x (by decide) z q) a0 a1 a4) (fun x q lv a0 a1 a4 z => kind lv x (hit 0 x (by decide) z q) a0 a1 a4)
    rw [if_pos is, kd, wd_kn w (fun k hk e => ?_)]
    · exact q
    · rcases (show k = 0 ∨ k = 1 ∨ k = 2 ∨ k = 3 ∨ k = 4 ∨ k = 5 by omega) with rfl | rfl | rfl | rfl | rfl | rfl
      · exact z0 (lg_0.mpr e)
      · exact z1 (lg_0.mpr e)
      · exact z2 (lg_0.mpr e)
      · exact z3 (lg_0.mpr e)
      · exact z4 (lg_0.mpr e)
      · exact z5 (lg_0.mpr e)
end
