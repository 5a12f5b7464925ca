-- A TEXT, AS THE REFERENCE READS IT
-- what a reading keeps of its state
def ls_ok (S : RLS) : Prop := (ls_f S = 0 → ls_l S = -1 ∧ ls_g S ≤ 40) ∧ 0 ≤ ls_f S
theorem ls_okB {s : Nat} {S : RLS} : ls_ok (ls_bad s S) := ⟨fun z => absurd (show (1 : Int) = 0 from z) (by decide), by show (0 : Int) ≤ 1; decide⟩
theorem ls_okA {p : Nat} {S : RLS} (h : ls_ok S) : ls_ok (ls_at p S) := h
theorem ls_okN {l : Int} {i : Nat} {q : Nat × (Nat × (Int × Int))} {S : RLS} (h : ls_ok S) : ls_ok (rd_num l i q S) := by
  obtain ⟨-, n2, -, n4, n5⟩ := rd_numE (l := l) (i := i) (q := q) (S := S)
  unfold ls_ok
  rw [n2, n4, n5]
  by_cases c : l < rt_v q ∧ ls_f S = 0
  · rw [if_pos c, if_pos c]
    exact ⟨fun z => absurd z (by decide), by decide⟩
  · rw [if_neg c, if_neg c]
    exact h
theorem ls_okG {q : Nat × (Nat × (Int × Int))} {S : RLS} (h : ls_ok S) : ls_ok (rd_beg q S) := by
  obtain ⟨-, n2, -, n4, n5⟩ := rd_begE (q := q) (S := S)
  unfold ls_ok
  rw [n2, n4, n5]
  by_cases c : 40 ≤ ls_g S ∧ ls_f S = 0
  · rw [if_pos c, if_pos c]
    exact ⟨fun z => absurd z (by decide), by decide⟩
  · rw [if_neg c, if_neg c]
    refine ⟨fun z => ⟨(h.1 z).1, ?_⟩, h.2⟩
    have : ¬ 40 ≤ ls_g S := fun y => c ⟨y, z⟩
    omega
theorem ls_okS {T : Nat → Int} {n : Nat} : ∀ (l : List Int) (i : Nat) (S : RLS), ls_ok S → ls_ok (rd_nums T n l i S).2 ∧ ((rd_nums T n l i S).1 = false → ls_f (rd_nums T n l i S).2 = 1)
  | [], _, S, h => ⟨h, fun z => absurd (show true = false from z) (by decide)⟩
  | x :: r, i, S, h => by
    rw [rd_nums]
    split
    · exact ls_okS r (i + 1) _ (ls_okN h)
    · exact ⟨ls_okB, fun _ => rfl⟩
theorem ls_okL {T : Nat → Int} {n : Nat} {S : RLS} (h : ls_ok S) : ls_ok (rd_line T n S).2 ∧ ((rd_line T n S).1 = 1 → ls_f (rd_line T n S).2 = 1) := by
  unfold rd_line
  split
  · exact ⟨h, fun z => absurd (show (0 : Nat) = 1 from z) (by decide)⟩
  · split
    · have k := ls_okS (T := T) (n := n) (rd_lim (rt_v (rd_tk T n (ls_p S)))) 0 (rd_beg (rd_tk T n (ls_p S)) S) (ls_okG h)
      split
      · unfold rd_mark
        split
        · exact ⟨k.1, fun z => absurd (show (2 : Nat) = 1 from z) (by decide)⟩
        · exact ⟨ls_okB, fun _ => rfl⟩
      · next hf => exact ⟨k.1, fun _ => k.2 (by simpa using hf)⟩
    · exact ⟨ls_okB, fun _ => rfl⟩
theorem ls_okR {T : Nat → Int} {n : Nat} : ∀ (d : Nat) (S : RLS), ls_ok S → ls_ok (rd_run T n d S).2 ∧ ((rd_run T n d S).1 = false → ls_f (rd_run T n d S).2 = 1)
  | 0, S, h => ⟨h, fun z => absurd (show true = false from z) (by decide)⟩
  | d + 1, S, h => by
    have k := ls_okL (T := T) (n := n) h
    rw [rd_run]
    split
    · exact ⟨k.1, fun z => absurd (show true = false from z) (by decide)⟩
    · split
      · next h1 => exact ⟨k.1, fun _ => k.2 h1⟩
      · exact ls_okR d _ k.1
theorem ls_okF {n : Nat} {S : RLS} (h : ls_ok S) : ls_ok (rd_fin n S) := by
  unfold rd_fin
  split
  · unfold ls_note
    split
    · exact ⟨fun z => absurd (show (4 : Int) = 0 from z) (by decide), by show (0 : Int) ≤ 4; decide⟩
    · exact h
  · exact h
def rd_S0 : RLS := (0, (0, (0, (-1, fun _ => 0))))
def rd_tx (T : Nat → Int) (n : Nat) : RLS := rd_all T n (fun _ => 0)
theorem rd_txE {T : Nat → Int} {n : Nat} : rd_tx T n = rd_fin n (rd_run T n 601 rd_S0).2 := rfl
theorem ls_okT {T : Nat → Int} {n : Nat} : ls_ok (rd_tx T n) := by
  rw [rd_txE]
  exact ls_okF (ls_okR 601 rd_S0 ⟨fun _ => ⟨rfl, by decide⟩, by decide⟩).1
section
variable {lv : List (Nat × Value)} {Q : Option Value → MH → Prop} {W : List (Nat × Nat)} {ρ : Nat → Nat} {m : Nat} {A : Nat → Nat} {h0 h : MH} {F : Nat → Int} {V : Nat → Nat → Int} {G : Nat → Nat → Int64}
theorem c_isRx {r : Int} {xr : Int32} (M : MX 49 W ρ m A h0 h F V G) (hr : xr.toInt = r) (g : ∀ z : Int32, (z.toInt = 1 ∧ 0 ≤ r ∧ r < V 5 0) ∨ (z.toInt = 0 ∧ (r < 0 ∨ V 5 0 ≤ r)) → Q (some (.int z)) h) : HJ 188 0 (lv_args 0 [.ref m, .int xr]) [] h Q := by
  refine s_isr0 M rfl rfl hr (fun x1 q1 x4 q4 a2 b2 => c_in M hr q1 q4 (fun z hz => ?_))
  have hz : (z.toInt = 1 ∧ 0 ≤ r ∧ r ≤ V 5 0 - 1) ∨ (z.toInt = 0 ∧ (r < 0 ∨ V 5 0 - 1 < r)) := hz
  exact s_isr13 (z := z.toInt) M rfl (by omega) (by omega) (g z (by omega))
-- the lines, one behind the other
theorem l_mrd {V0 : Nat → Nat → Int} {n : Nat} {R : Bool × RLS} (hw : d_sub w_ml W = true)
    (gT : ∀ (lv : List (Nat × Value)) (h : MH) (S : RLS) (xf : Int32), (true, ls_at (rt_b (rd_tk (V0 1) n (ls_p S))) S) = R → rt_t (rd_tk (V0 1) n (ls_p S)) = 0 → MMr W ρ m A h0 V0 G n (ls_g S) S h → xf.toInt = 1 → m_lk lv 0 = some (.ref m) → m_lk lv 1 = some (.int xf) → HJ 189 71 lv [] h Q)
    (gF : ∀ (lv : List (Nat × Value)) (h : MH) (xf : Int32), R.1 = false → MBr W ρ m A h0 V0 G (ls_l R.2) h → xf.toInt = 0 → m_lk lv 0 = some (.ref m) → m_lk lv 1 = some (.int xf) → HJ 189 71 lv [] h Q) :
    ∀ (d : Nat) (lv : List (Nat × Value)) (h : MH) (S : RLS) (xf : Int32), MMr W ρ m A h0 V0 G n (ls_g S) S h → n < ls_p S + d → rd_run (V0 1) n d S = R → xf.toInt = 1 → m_lk lv 0 = some (.ref m) → m_lk lv 1 = some (.int xf) → HJ 189 23 lv [] h Q := by
  intro d
  induction d with
  | zero =>
    intro lv h S xf B hd eR qf e0 e1
    obtain ⟨F, V, M, vo, tk, fl, td, pn⟩ := B
    omega
  | succ d ih =>
    intro lv h S xf B hd eR qf e0 e1
    obtain ⟨F, V, M, vo, tk, fl, td, pn⟩ := id B
    have tb := rd_tkB (T := V0 1) (n := n) (p := ls_p S) pn
    have k9 := tk.2.2.1
    have k10 := tk.2.2.2.1
    have sm := (rt_mE (t := rt_t (rd_tk (V0 1) n (ls_p S)))).1
    rw [rd_run] at eR
    have bad : (rd_line (V0 1) n S).1 = 1 → ∀ (lv : List (Nat × Value)) (h' : MH) (x : Int32), MBr W ρ m A h0 V0 G (ls_l (rd_line (V0 1) n S).2) h' → x.toInt = 0 → m_lk lv 0 = some (.ref m) → m_lk lv 1 = some (.int x) → HJ 189 23 lv [] h' Q := fun e1l lv h' x B' qx i0 i1 => by
      rw [if_neg (by rw [e1l]; decide), if_pos e1l] at eR
      obtain ⟨F', V', M', -⟩ := id B'
      refine s_mr23 M' i0 i1 qx (fun _ => gF lv h' x (by rw [← eR]) (by rw [← eR]; exact B') qx i0 i1) (fun c => absurd rfl c) (fun _ _ c => absurd rfl c)
    refine s_mr23 M e0 e1 qf (fun c => absurd c (by decide)) (fun _ _ _ c31 => ?_) (fun x2 q2 _ _ _ c31 _ _ => ?_)
    · have tz : rt_t (rd_tk (V0 1) n (ls_p S)) = 0 := sm.mp (k10.symm.trans c31)
      have el : rd_line (V0 1) n S = (0, ls_at (rt_b (rd_tk (V0 1) n (ls_p S))) S) := by
        unfold rd_line
        rw [if_pos tz]
      rw [el, if_pos rfl] at eR
      exact gT lv h S xf eR tz B qf e0 e1
    · have tn : rt_t (rd_tk (V0 1) n (ls_p S)) ≠ 0 := fun z => c31 (k10.trans (sm.mpr z))
      refine c_mline hw B (q2.trans k9) tn (fun ok hT x h' qx B' => ?_) (fun x h' s qx hs B' => ?_)
      · show HJ 189 42 lv [.int x] h' Q
        have pr := rd_numsP (T := V0 1) (n := n) (rd_lim (rt_v (rd_tk (V0 1) n (ls_p S)))) 0 (rd_beg (rd_tk (V0 1) n (ls_p S)) S) (by rw [rd_begE.1]; exact tb.1.2.2)
        rw [rd_begE.1] at pr
        obtain ⟨S2, hS⟩ : ∃ S2, S2 = (rd_nums (V0 1) n (rd_lim (rt_v (rd_tk (V0 1) n (ls_p S)))) 0 (rd_beg (rd_tk (V0 1) n (ls_p S)) S)).2 := ⟨_, rfl⟩
        rw [← hS] at B' pr
        obtain ⟨F2, V2, M2, vo2, tk2, fl2, td2, pn2⟩ := id B'
        have tb2 := rd_tkB (T := V0 1) (n := n) (p := ls_p S2) pn2
        have sm4 := (rt_mE (t := rt_t (rd_tk (V0 1) n (ls_p S2)))).2.2.2
        have t4 := tb.2.1 tn
        refine s_mr42 M2 e0 qx (fun lv1 d0 d1 c => absurd c (by decide)) (fun lv1 d0 d1 _ _ _ c52 => ?_) (fun lv1 d0 d1 _ _ _ c52 => ?_)
        · have m3 : rt_t (rd_tk (V0 1) n (ls_p S2)) = 3 := sm4.mp (tk2.2.2.2.1.symm.trans c52)
          have el : rd_line (V0 1) n S = (2, ls_at (rt_b (rd_tk (V0 1) n (ls_p S2))) S2) := by
            unfold rd_line
            rw [if_neg tn, if_pos ok, if_pos hT]
            unfold rd_mark
            rw [← hS, if_pos m3]
          have e1 : (rd_line (V0 1) n S).1 = 2 := by rw [el]
          rw [if_neg (by rw [e1]; decide), if_neg (by rw [e1]; decide), el] at eR
          have tb3 := tb2.2.1 (by rw [m3]; decide)
          refine c_nexm (p := rt_b (rd_tk (V0 1) n (ls_p S2))) (S := ls_at (rt_b (rd_tk (V0 1) n (ls_p S2))) S2) (c := ls_g S2) hw M2 vo2 tk2.1 tk2.2.1 rfl tb2.1.2.2 ⟨fl2.1, fun z => ⟨(fl2.2 z).1, ?_⟩⟩ td2 (fun h3 B3 => ?_)
          · have y := (fl2.2 z).2
            have y1 := tb2.1.1
            have y2 := tb2.1.2.1
            show ls_l S2 < ((rt_b (rd_tk (V0 1) n (ls_p S2)) : Nat) : Int)
            omega
          · obtain ⟨F3, V3, M3, -⟩ := id B3
            refine s_mr68 M3 d0 d1 qx (ih lv1 h3 _ x B3 ?_ eR qx d0 d1)
            show n < rt_b (rd_tk (V0 1) n (ls_p S2)) + d
            have y1 := tb.1.1
            have y2 := tb2.1.1
            omega
        · have m3 : ¬ rt_t (rd_tk (V0 1) n (ls_p S2)) = 3 := fun z => c52 (tk2.2.2.2.1.trans (sm4.mpr z))
          have el : rd_line (V0 1) n S = (1, ls_bad (rt_s (rd_tk (V0 1) n (ls_p S2))) (ls_at (rt_b (rd_tk (V0 1) n (ls_p S2))) S2)) := by
            unfold rd_line
            rw [if_neg tn, if_pos ok, if_pos hT]
            unfold rd_mark
            rw [← hS, if_neg m3]
          obtain ⟨u0, u1, -⟩ := td_0 td2
          refine c_sto9 M2 hw tk2.2.2.1 (fun x5 h5 F5 q5 M5 f13 => s_mr59 M5 d0 q5 (fun lv3 i0 i1 _ => bad (by rw [el]) lv3 h5 x5 ?_ q5 i0 i1) (fun _ _ _ c => absurd rfl c))
          rw [el]
          exact ⟨F5, V2, M5, vo2, f13, u0, u1⟩
      · show HJ 189 42 lv [.int x] h' Q
        obtain ⟨F', V', M', vo', f13, u0, u1⟩ := id B'
        have el : (rd_line (V0 1) n S).1 = 1 ∧ ls_l (rd_line (V0 1) n S).2 = s := by
          unfold rd_line
          rw [if_neg tn]
          rcases hs with ⟨no, es⟩ | ⟨ok, hf, es⟩
          · rw [if_neg no]
            exact ⟨rfl, es.symm⟩
          · rw [if_pos ok, if_neg (by rw [hf]; decide)]
            exact ⟨rfl, es.symm⟩
        refine s_mr42 M' e0 qx (fun lv1 d0 d1 _ => bad el.1 lv1 h' x (by rw [el.2]; exact B') qx d0 d1) (fun _ _ _ c => absurd rfl c) (fun _ _ _ c => absurd rfl c)
-- the whole of it
def w_mrt : List (Nat × Nat) := (52, 1001) :: (53, 1001) :: w_ml
theorem c_mread {n : Nat} (M : MX 49 W ρ m A h0 h F V G) (hw : d_sub w_mrt W = true) (q8 : F 8 = (n : Int)) (n6 : n ≤ 600)
    (g : ∀ (x : Int32) (h' : MH) (F' : Nat → Int) (V' : Nat → Nat → Int), (x.toInt = 1 ∧ ls_f (rd_tx (V 1) n) = 0) ∨ (x.toInt = 0 ∧ ls_f (rd_tx (V 1) n) ≠ 0) → MX 49 W ρ m A h0 h' F' V' G → V' 3 = m_u (V 3) 0 (ls_f (rd_tx (V 1) n)) → V' 4 = m_u (V 4) 0 (ls_l (rd_tx (V 1) n)) → (∀ K, K ≠ 3 → K ≠ 4 → K ≠ 16 → V' K = V K) → (ls_f (rd_tx (V 1) n) = 0 → td_ok (V' 16) (ls_g (rd_tx (V 1) n)) (ls_g (rd_tx (V 1) n)) (ls_t (rd_tx (V 1) n))) → 0 ≤ V' 16 0 ∧ V' 16 0 ≤ 40 → Q (some (.int x)) h') : HJ 189 0 (lv_args 0 [.ref m]) [] h Q := by
  have hl : d_sub w_ml W = true := d_subm hw (by decide +kernel)
  have ok := ls_okT (T := V 1) (n := n)
  obtain ⟨Z, hZ⟩ : ∃ Z, Z = rd_tx (V 1) n := ⟨_, rfl⟩
  rw [← hZ] at g ok
  -- the end of it
  have fin1 : ∀ (lv : List (Nat × Value)) (h' : MH) (F' : Nat → Int) (V' : Nat → Nat → Int) (xf : Int32), MX 49 W ρ m A h0 h' F' V' G → xf.toInt = 1 → F' 14 = ls_f Z → (ls_f Z ≠ 0 → F' 15 = ls_l Z) → (∀ K, K ≠ 16 → V' K = V K) → (ls_f Z = 0 → td_ok (V' 16) (ls_g Z) (ls_g Z) (ls_t Z)) → 0 ≤ V' 16 0 ∧ V' 16 0 ≤ 40 → m_lk lv 0 = some (.ref m) → m_lk lv 1 = some (.int xf) → HJ 189 100 lv [] h' Q := fun lv h' F' V' xf M' qf f14 f15 vo td u e0 e1 => by
    have ok2 := ok.2
    refine s_mr100 M' e0 e1 qf (d_subm hw (by decide +kernel)) (fun _ _ _ _ _ _ _ _ _ c => absurd c (by decide)) (fun _ _ _ _ _ _ _ _ _ _ _ _ c1 c2 => by omega) (fun h11 V11 f11 h15 V15 f15' x19 q19 M15 _ _ _ _ c156 => ?_) (fun h11 V11 f11 h21 V21 f21 x24 q24 M21 _ _ _ c138 _ _ c156 => ?_) (fun _ _ _ _ _ _ _ _ _ _ _ _ c1 _ _ c2 => by omega)
    · have z0 : ls_f Z = 0 := by omega
      have f11 : V11 = m_u V' 3 (m_u (V' 3) 0 (F' 14)) := f11
      have f15' : V15 = m_u V11 4 (m_u (V11 4) 0 (-1)) := f15'
      refine g x19 h15 F' V15 (Or.inl ⟨q19, z0⟩) M15 ?_ ?_ (fun K k3 k4 k16 => ?_) (fun z => ?_) ?_
      · rw [f15', m_uN _ _ _ _ (by decide), f11, m_uE, f14, vo 3 (by decide)]
      · rw [f15', m_uE, f11, m_uN _ _ _ _ (by decide), vo 4 (by decide), (ok.1 z0).1]
      · rw [f15', m_uN _ _ _ _ k4, f11, m_uN _ _ _ _ k3, vo K k16]
      · rw [f15', m_uN _ _ _ _ (by decide), f11, m_uN _ _ _ _ (by decide)]
        exact td z
      · rw [f15', m_uN _ _ _ _ (by decide), f11, m_uN _ _ _ _ (by decide)]
        exact u
    · have z0 : ls_f Z ≠ 0 := by omega
      have f11 : V11 = m_u V' 3 (m_u (V' 3) 0 (F' 14)) := f11
      have f21 : V21 = m_u V11 4 (m_u (V11 4) 0 (F' 15)) := f21
      refine g x24 h21 F' V21 (Or.inr ⟨q24, z0⟩) M21 ?_ ?_ (fun K k3 k4 k16 => ?_) (fun z => absurd z z0) ?_
      · rw [f21, m_uN _ _ _ _ (by decide), f11, m_uE, f14, vo 3 (by decide)]
      · rw [f21, m_uE, f11, m_uN _ _ _ _ (by decide), vo 4 (by decide), f15 z0]
      · rw [f21, m_uN _ _ _ _ k4, f11, m_uN _ _ _ _ k3, vo K k16]
      · rw [f21, m_uN _ _ _ _ (by decide), f11, m_uN _ _ _ _ (by decide)]
        exact u
  refine s_mr0 M rfl (d_subm hw (by decide +kernel)) (fun h3 V3 f3 h5 F5 f5 h7 F7 f7 x8 q8' lv9 M7 d0 d1 => ?_)
  have f3 : V3 = m_u V 16 (m_u (V 16) 0 0) := f3
  have vo3 : ∀ K, K ≠ 16 → V3 K = V K := fun K hK => by rw [f3, m_uN _ _ _ _ hK]
  refine c_nexm (V0 := V) (n := n) (S := rd_S0) (c := 0) (p := 0) hl M7 vo3 ?_ ?_ rfl (Nat.zero_le _) ⟨?_, fun z => absurd rfl z⟩ ⟨?_, fun k _ kg => absurd kg (Nat.not_lt_zero k)⟩ (fun h1 B1 => ?_)
  · rw [f7, m_uN _ _ _ _ (by decide), f5, m_uN _ _ _ _ (by decide)]
    exact q8
  · rw [f7, m_uN _ _ _ _ (by decide), f5, m_uE]
    rfl
  · rw [f7, m_uE]
    rfl
  · rw [f3, m_uE, m_uE]
    rfl
  · show HJ 189 23 lv9 [] h1 Q
    have hR2 := ls_okR (T := V 1) (n := n) 601 rd_S0 ⟨fun _ => ⟨rfl, by decide⟩, by decide⟩
    have hZ := hZ.trans rd_txE
    refine l_mrd (V0 := V) (n := n) (R := rd_run (V 1) n 601 rd_S0) hl (fun lv h2 S xf eT tz B2 qf e0 e1 => ?_) (fun lv h2 xf hF B2 qf e0 e1 => ?_) 601 lv9 h1 rd_S0 x8 B1 (by show n < 0 + 601; omega) rfl q8' d0 d1
    · obtain ⟨F2, V2, M2, vo2, tk2, fl2, td2, pn2⟩ := B2
      have tb2 := rd_tkB (T := V 1) (n := n) (p := ls_p S) pn2
      have es : rt_s (rd_tk (V 1) n (ls_p S)) = n := tb2.2.2.1 tz
      rw [← eT] at hZ
      obtain ⟨u0, u1, u2, u3, u4⟩ := td_0 td2
      have gz : V2 16 0 = 0 ↔ ls_g S = 0 := by
        constructor
        · intro z
          by_cases c : ls_g S < 40
          · have := u3 c
            omega
          · have := u4 (by omega)
            omega
        · intro z
          have := u3 (by omega)
          omega
      -- no fault of its own at the end
      have same : ls_f S ≠ 0 ∨ ls_g S ≠ 0 → ls_f Z = ls_f S ∧ ls_l Z = ls_l S ∧ ls_g Z = ls_g S ∧ ls_t Z = ls_t S := fun hc => by
        rw [hZ]
        unfold rd_fin
        show ls_f (if ls_g S = 0 then ls_note 4 n (ls_at (rt_b (rd_tk (V 1) n (ls_p S))) S) else ls_at (rt_b (rd_tk (V 1) n (ls_p S))) S) = _ ∧ ls_l (if ls_g S = 0 then ls_note 4 n (ls_at (rt_b (rd_tk (V 1) n (ls_p S))) S) else ls_at (rt_b (rd_tk (V 1) n (ls_p S))) S) = _ ∧ ls_g (if ls_g S = 0 then ls_note 4 n (ls_at (rt_b (rd_tk (V 1) n (ls_p S))) S) else ls_at (rt_b (rd_tk (V 1) n (ls_p S))) S) = _ ∧ ls_t (if ls_g S = 0 then ls_note 4 n (ls_at (rt_b (rd_tk (V 1) n (ls_p S))) S) else ls_at (rt_b (rd_tk (V 1) n (ls_p S))) S) = _
        by_cases c : ls_g S = 0
        · have cf : ¬ ls_f (ls_at (rt_b (rd_tk (V 1) n (ls_p S))) S) = 0 := hc.resolve_right (fun z => z c)
          rw [if_pos c]
          unfold ls_note
          rw [if_neg cf]
          exact ⟨rfl, rfl, rfl, rfl⟩
        · rw [if_neg c]
          exact ⟨rfl, rfl, rfl, rfl⟩
      have keep : ls_f S ≠ 0 ∨ ls_g S ≠ 0 → HJ 189 100 lv [] h2 Q := fun hc => by
        obtain ⟨y1, y2, y3, y4⟩ := same hc
        refine fin1 lv h2 F2 V2 xf M2 qf (by rw [y1]; exact fl2.1) (fun z => ?_) vo2 (fun _ => by rw [y3, y4]; exact td2) ⟨u0, u1⟩ e0 e1
        rw [y1] at z
        rw [y2]
        exact (fl2.2 z).1
      refine s_mr71 M2 e0 e1 qf (fun c => absurd c (by decide)) (fun _ _ _ c79 => keep (Or.inl (by rw [← fl2.1]; exact c79))) (fun _ _ _ _ c88 => keep (Or.inr (fun z => c88 (gz.mpr z)))) (fun x4 q4 x5 q5 _ _ _ c79 c88 _ _ => ?_)
      have g0 : ls_g S = 0 := gz.mp c88
      have f0 : ls_f S = 0 := by rw [← fl2.1]; exact c79
      have hZ4 : ls_f Z = 4 ∧ ls_l Z = (n : Int) := by
        rw [hZ]
        unfold rd_fin
        show ls_f (if ls_g S = 0 then ls_note 4 n (ls_at (rt_b (rd_tk (V 1) n (ls_p S))) S) else ls_at (rt_b (rd_tk (V 1) n (ls_p S))) S) = _ ∧ ls_l (if ls_g S = 0 then ls_note 4 n (ls_at (rt_b (rd_tk (V 1) n (ls_p S))) S) else ls_at (rt_b (rd_tk (V 1) n (ls_p S))) S) = _
        have cf : ls_f (ls_at (rt_b (rd_tk (V 1) n (ls_p S))) S) = 0 := f0
        rw [if_pos g0]
        unfold ls_note
        rw [if_pos cf]
        exact ⟨rfl, rfl⟩
      refine c_later M2 (d_subm hl (by decide +kernel)) q4 q5 (fun z => absurd c79 z) (fun h3 F3 M3 _ a14 a15 o3 => ?_)
      show HJ 189 100 lv [] h3 Q
      refine fin1 lv h3 F3 V2 xf M3 qf (by rw [a14, if_pos c79, hZ4.1]) (fun _ => ?_) vo2 (fun z => absurd (hZ4.1.symm.trans z) (by decide)) ⟨u0, u1⟩ e0 e1
      rw [a15, if_pos c79, tk2.2.2.1, es, hZ4.2]
    · obtain ⟨F2, V2, M2, vo2, f13, u0, u1⟩ := B2
      have r1 := hR2.2 hF
      have hZ5 : ls_f Z = 1 ∧ ls_l Z = ls_l (rd_run (V 1) n 601 rd_S0).2 := by
        rw [hZ]
        unfold rd_fin
        split
        · unfold ls_note
          rw [if_neg (by rw [r1]; decide)]
          exact ⟨r1, rfl⟩
        · exact ⟨r1, rfl⟩
      refine s_mr71 M2 e0 e1 qf (fun _ => ?_) (fun c => absurd rfl c) (fun c => absurd rfl c) (fun _ _ _ _ c => absurd rfl c)
      refine s_mr100 M2 e0 e1 qf (d_subm hw (by decide +kernel)) (fun h3 V3 f3 h6 V6 f6 x9 q9 M6 _ _ _ => ?_) (fun _ _ _ _ _ _ _ _ _ c => absurd rfl c) (fun _ _ _ _ _ _ _ _ _ c => absurd rfl c) (fun _ _ _ _ _ _ _ _ _ c => absurd rfl c) (fun _ _ _ _ _ _ _ _ _ c => absurd rfl c)
      have f3 : V3 = m_u V2 3 (m_u (V2 3) 0 1) := f3
      have f6 : V6 = m_u V3 4 (m_u (V3 4) 0 (F2 13)) := f6
      refine g x9 h6 F2 V6 (Or.inr ⟨q9, by rw [hZ5.1]; decide⟩) M6 ?_ ?_ (fun K k3 k4 k16 => ?_) (fun z => absurd (hZ5.1.symm.trans z) (by decide)) ?_
      · rw [f6, m_uN _ _ _ _ (by decide), f3, m_uE, vo2 3 (by decide), hZ5.1]
      · rw [f6, m_uE, f3, m_uN _ _ _ _ (by decide), vo2 4 (by decide), f13, hZ5.2]
      · rw [f6, m_uN _ _ _ _ k4, f3, m_uN _ _ _ _ k3, vo2 K k16]
      · rw [f6, m_uN _ _ _ _ (by decide), f3, m_uN _ _ _ _ (by decide)]
        exact ⟨u0, u1⟩
theorem s_mt0 {a : Int} (M : MX 49 W ρ m A h0 h F V G) (e0 : m_lk lv 0 = some (.ref m)) {lx1 : Int32} (e1 : m_lk lv 1 = some (.int lx1)) (lq1 : lx1.toInt = a) (hw : d_sub [(49, 0), (49, 8), (51, 1001), (52, 1001), (53, 1001)] W = true)
    (g0 : ∀ h2 : MH, ∀ F2 : Nat → Int, F2 = m_u F 0 (0) → ∀ h5 : MH, ∀ F5 : Nat → Int, F5 = m_u F2 8 (V 2 (0 : Int).toNat) → ∀ h8 : MH, ∀ V8 : Nat → Nat → Int, V8 = m_u V 2 (m_u (V 2) (0 : Int).toNat (0)) → ∀ h11 : MH, ∀ V11 : Nat → Nat → Int, V11 = m_u V8 3 (m_u (V8 3) (0 : Int).toNat (0)) → ∀ h14 : MH, ∀ V14 : Nat → Nat → Int, V14 = m_u V11 4 (m_u (V11 4) (0 : Int).toNat ((-1))) → MX 49 W ρ m A h0 h14 F5 V14 G → 0 ≤ V 2 (0 : Int).toNat → V 2 (0 : Int).toNat ≤ 600 → a ≠ (-1) → HJ 188 0 (lv_args 0 [.ref m, .int lx1]) [] h14 (fun v h' => HJ 187 59 lv (v.toList ++ []) h' Q))
    (g1 : ∀ h2 : MH, ∀ F2 : Nat → Int, F2 = m_u F 0 (0) → ∀ h5 : MH, ∀ F5 : Nat → Int, F5 = m_u F2 8 (V 2 (0 : Int).toNat) → ∀ h8 : MH, ∀ V8 : Nat → Nat → Int, V8 = m_u V 2 (m_u (V 2) (0 : Int).toNat (0)) → ∀ h11 : MH, ∀ V11 : Nat → Nat → Int, V11 = m_u V8 3 (m_u (V8 3) (0 : Int).toNat (0)) → ∀ h14 : MH, ∀ V14 : Nat → Nat → Int, V14 = m_u V11 4 (m_u (V11 4) (0 : Int).toNat ((-1))) → MX 49 W ρ m A h0 h14 F5 V14 G → 0 ≤ V 2 (0 : Int).toNat → V 2 (0 : Int).toNat ≤ 600 → a = (-1) → 0 ≤ V 5 (0 : Int).toNat → V 5 (0 : Int).toNat ≤ 4 → V 5 (0 : Int).toNat ≠ 4 → HJ 187 65 lv [] h14 Q)
    (g2 : ∀ h2 : MH, ∀ F2 : Nat → Int, F2 = m_u F 0 (0) → ∀ h5 : MH, ∀ F5 : Nat → Int, F5 = m_u F2 8 (V 2 (0 : Int).toNat) → ∀ h8 : MH, ∀ V8 : Nat → Nat → Int, V8 = m_u V 2 (m_u (V 2) (0 : Int).toNat (0)) → ∀ h11 : MH, ∀ V11 : Nat → Nat → Int, V11 = m_u V8 3 (m_u (V8 3) (0 : Int).toNat (0)) → ∀ h14 : MH, ∀ V14 : Nat → Nat → Int, V14 = m_u V11 4 (m_u (V11 4) (0 : Int).toNat ((-1))) → ∀ x19 : Int32, x19.toInt = (-2) → MX 49 W ρ m A h0 h14 F5 V14 G → 0 ≤ V 2 (0 : Int).toNat → V 2 (0 : Int).toNat ≤ 600 → a = (-1) → 0 ≤ V 5 (0 : Int).toNat → V 5 (0 : Int).toNat ≤ 4 → V 5 (0 : Int).toNat = 4 → Q (some (.int x19)) h14)
    : HJ 187 0 lv [] h Q := by
  refine hI_al (k := 0) rfl e0 rfl ?_ -- 0
  refine hM_ic (n := 0) rfl (by decide) rfl (fun x1 q1 => ?_) -- 1
  refine hM_pi M (by decide) ok_49 rfl rfl (k := 0) (c := 9) (lo := (-2147483648)) (hi := 2147483647) rfl rfl ⟨by decide, by decide +kernel, rfl⟩ rfl (d_subm hw (by decide +kernel)) q1 (by omega) (by omega) rfl (fun h2 F2 f2 M2 => ?_) -- 2
  refine hI_al (k := 0) rfl e0 rfl ?_ -- 5
  refine hI_al (k := 0) rfl e0 rfl ?_ -- 6
  refine hM_ga M2 (by decide) rfl rfl (k := 2) (c := 9) rfl rfl rfl (by decide +kernel) rfl ?_ -- 7
  refine hM_ic (n := 0) rfl (by decide) rfl (fun x3 q3 => ?_) -- 10
  refine hM_ia M2 (by decide) (K := 2) (R2 := 51) (L := 4) (H := 4) (lo := 0) (hi := 600) rfl (by decide) rfl rfl (fun _ => rfl) rfl q3 (by omega) (by omega) rfl (fun x4 q4 a4 b4 => ?_) -- 11
  refine hM_pi M2 (by decide) ok_49 rfl rfl (k := 8) (c := 9) (lo := 0) (hi := 600) rfl rfl ⟨by decide, by decide +kernel, rfl⟩ rfl (d_subm hw (by decide +kernel)) q4 (by omega) (by omega) rfl (fun h5 F5 f5 M5 => ?_) -- 12
  refine hI_al (k := 0) rfl e0 rfl ?_ -- 15
  refine hM_ga M5 (by decide) rfl rfl (k := 2) (c := 9) rfl rfl rfl (by decide +kernel) rfl ?_ -- 16
  refine hM_ic (n := 0) rfl (by decide) rfl (fun x6 q6 => ?_) -- 19
  refine hM_ic (n := 0) rfl (by decide) rfl (fun x7 q7 => ?_) -- 20
  refine hM_is M5 (by decide) ok_49 (K := 2) (R2 := 51) (L := 4) (H := 4) (lo := 0) (hi := 600) rfl (by decide) rfl rfl rfl (fun _ => rfl) (d_subm hw (by decide +kernel)) rfl q6 q7 (by omega) (by omega) (by omega) (by omega) rfl (fun h8 V8 f8 M8 => ?_) -- 21
  refine hI_al (k := 0) rfl e0 rfl ?_ -- 22
  refine hM_ga M8 (by decide) rfl rfl (k := 3) (c := 9) rfl rfl rfl (by decide +kernel) rfl ?_ -- 23
  refine hM_ic (n := 0) rfl (by decide) rfl (fun x9 q9 => ?_) -- 26
  refine hM_ic (n := 0) rfl (by decide) rfl (fun x10 q10 => ?_) -- 27
  refine hM_is M8 (by decide) ok_49 (K := 3) (R2 := 52) (L := 4) (H := 4) (lo := (-2147483648)) (hi := 2147483647) rfl (by decide) rfl rfl rfl (fun _ => rfl) (d_subm hw (by decide +kernel)) rfl q9 q10 (by omega) (by omega) (by omega) (by omega) rfl (fun h11 V11 f11 M11 => ?_) -- 28
  refine hI_al (k := 0) rfl e0 rfl ?_ -- 29
  refine hM_ga M11 (by decide) rfl rfl (k := 4) (c := 9) rfl rfl rfl (by decide +kernel) rfl ?_ -- 30
  refine hM_ic (n := 0) rfl (by decide) rfl (fun x12 q12 => ?_) -- 33
  refine hM_ic (n := (-1)) rfl (by decide) rfl (fun x13 q13 => ?_) -- 34
  refine hM_is M11 (by decide) ok_49 (K := 4) (R2 := 53) (L := 4) (H := 4) (lo := (-2147483648)) (hi := 2147483647) rfl (by decide) rfl rfl rfl (fun _ => rfl) (d_subm hw (by decide +kernel)) rfl q12 q13 (by omega) (by omega) (by omega) (by omega) rfl (fun h14 V14 f14 M14 => ?_) -- 35
  refine hI_il (k := 1) rfl e1 rfl ?_ -- 36
  refine hM_ic (n := (-1)) rfl (by decide) rfl (fun x15 q15 => ?_) -- 37
  refine hM_cne (off := 16) (t := 54) rfl lq1 q15 (by decide) rfl (fun c38 => ?_) (fun c38 => ?_) -- 38
  · refine hI_al (k := 0) rfl e0 rfl ?_ -- 54
    refine hI_il (k := 1) rfl e1 rfl ?_ -- 55
    refine hM_iv M14 (by decide) rfl rfl (by decide) (as := [.int lx1]) (r := []) rfl rfl (by decide +kernel) rfl (by decide +kernel) rfl rfl rfl rfl rfl ?_ -- 56
    exact g0 h2 F2 f2 h5 F5 f5 h8 V8 f8 h11 V11 f11 h14 V14 f14 M14 a4 b4 c38
  · refine hI_al (k := 0) rfl e0 rfl ?_ -- 41
    refine hM_ga M14 (by decide) rfl rfl (k := 5) (c := 9) rfl rfl rfl (by decide +kernel) rfl ?_ -- 42
    refine hM_ic (n := 0) rfl (by decide) rfl (fun x16 q16 => ?_) -- 45
    refine hM_ia M14 (by decide) (K := 5) (R2 := 54) (L := 4) (H := 4) (lo := 0) (hi := 4) rfl (by decide) rfl rfl (fun _ => rfl) rfl q16 (by omega) (by omega) rfl (fun x17 q17 a17 b17 => ?_) -- 46
    have q17 : x17.toInt = V 5 (0 : Int).toNat := by rw [q17, f14, f11, f8]; rfl
    rw [f14, f11, f8] at a17 b17
    change 0 ≤ V 5 (0 : Int).toNat at a17
    change V 5 (0 : Int).toNat ≤ 4 at b17 -- 46
    refine hM_ic (n := 4) rfl (by decide) rfl (fun x18 q18 => ?_) -- 47
    refine hM_cne (off := 17) (t := 65) rfl q17 q18 (by decide) rfl (fun c48 => ?_) (fun c48 => ?_) -- 48
    · exact g1 h2 F2 f2 h5 F5 f5 h8 V8 f8 h11 V11 f11 h14 V14 f14 M14 a4 b4 c38 a17 b17 c48
    · refine hI_go (pc' := 62) (off := 11) rfl (by decide) ?_ -- 51
      refine hM_bp (n := (-2)) rfl (by decide) rfl (fun x19 q19 => ?_) -- 62
      refine hI_ri rfl rfl ?_ -- 64
      exact g2 h2 F2 f2 h5 F5 f5 h8 V8 f8 h11 V11 f11 h14 V14 f14 x19 q19 M14 a4 b4 c38 a17 b17 c48
theorem s_mt59 {a z : Int} (M : MX 49 W ρ m A h0 h F V G) (e0 : m_lk lv 0 = some (.ref m)) {lx1 : Int32} (e1 : m_lk lv 1 = some (.int lx1)) (lq1 : lx1.toInt = a) {sx0 : Int32} (sq0 : sx0.toInt = z) 
    (g0 : z ≠ 0 → HJ 187 65 lv [] h Q)
    (g1 : ∀ x1 : Int32, x1.toInt = (-2) → z = 0 → Q (some (.int x1)) h)
    : HJ 187 59 lv [.int sx0] h Q := by
  refine hM_zne (off := 6) (t := 65) rfl sq0 (by decide) rfl (fun c59 => ?_) (fun c59 => ?_) -- 59
  · exact g0 c59
  · refine hM_bp (n := (-2)) rfl (by decide) rfl (fun x1 q1 => ?_) -- 62
    refine hI_ri rfl rfl ?_ -- 64
    exact g1 x1 q1 c59
theorem s_mt65 {a : Int} (M : MX 49 W ρ m A h0 h F V G) (e0 : m_lk lv 0 = some (.ref m)) {lx1 : Int32} (e1 : m_lk lv 1 = some (.int lx1)) (lq1 : lx1.toInt = a) 
    (g0 : HJ 189 0 (lv_args 0 [.ref m]) [] h (fun v h' => HJ 187 69 lv (v.toList ++ []) h' Q))
    : HJ 187 65 lv [] h Q := by
  refine hI_al (k := 0) rfl e0 rfl ?_ -- 65
  refine hM_iv M (by decide) rfl rfl (by decide) (as := []) (r := []) rfl rfl (by decide +kernel) rfl (by decide +kernel) rfl rfl rfl rfl rfl ?_ -- 66
  exact g0 
theorem s_mt69 {a z : Int} (M : MX 49 W ρ m A h0 h F V G) (e0 : m_lk lv 0 = some (.ref m)) {lx1 : Int32} (e1 : m_lk lv 1 = some (.int lx1)) (lq1 : lx1.toInt = a) {sx0 : Int32} (sq0 : sx0.toInt = z) (m3 : a = -1 → V 5 (0 : Int).toNat ≤ 3)(hw : d_sub [(54, 1001)] W = true)
    (g0 : ∀ h8 : MH, ∀ V8 : Nat → Nat → Int, V8 = m_u V 5 (m_u (V 5) (0 : Int).toNat ((V 5 (0 : Int).toNat) + 0)) → ∀ x9 : Int32, x9.toInt = 0 → ∀ lv10 : List (Nat × Value), MX 49 W ρ m A h0 h8 F V8 G → m_lk lv10 0 = some (.ref m) → m_lk lv10 2 = some (.int lx1) → m_lk lv10 3 = some (.int x9) → z ≠ 0 → a ≠ (-1) → 0 ≤ V 5 (0 : Int).toNat → V 5 (0 : Int).toNat ≤ 4 → HJ 187 111 lv10 [] h8 Q)
    (g1 : ∀ x12 : Int32, x12.toInt = V 5 (0 : Int).toNat → ∀ h19 : MH, ∀ V19 : Nat → Nat → Int, V19 = m_u V 5 (m_u (V 5) (0 : Int).toNat ((V 5 (0 : Int).toNat) + 1)) → ∀ x20 : Int32, x20.toInt = 0 → ∀ lv21 : List (Nat × Value), MX 49 W ρ m A h0 h19 F V19 G → m_lk lv21 0 = some (.ref m) → m_lk lv21 2 = some (.int x12) → m_lk lv21 3 = some (.int x20) → z ≠ 0 → a = (-1) → 0 ≤ V 5 (0 : Int).toNat → V 5 (0 : Int).toNat ≤ 4 → HJ 187 111 lv21 [] h19 Q)
    (g2 : ∀ x22 : Int32, x22.toInt = (-1) → z = 0 → Q (some (.int x22)) h)
    : HJ 187 69 lv [.int sx0] h Q := by
  refine hM_zne (off := 5) (t := 74) rfl sq0 (by decide) rfl (fun c69 => ?_) (fun c69 => ?_) -- 69
  · refine hI_il (k := 1) rfl e1 rfl ?_ -- 74
    refine hM_ic (n := (-1)) rfl (by decide) rfl (fun x1 q1 => ?_) -- 75
    refine hM_cne (off := 12) (t := 88) rfl lq1 q1 (by decide) rfl (fun c76 => ?_) (fun c76 => ?_) -- 76
    · refine hI_il (k := 1) rfl e1 rfl ?_ -- 88
      refine hM_si (k := 2) rfl (by decide +kernel) rfl (fun lv2 e2_2 u2 => ?_) -- 89
      have e2_0 := u2 0 _ (by decide) (Or.inl rfl) e0
      have e2_1 := u2 1 _ (by decide) (Or.inl rfl) e1
      refine hI_al (k := 0) rfl e2_0 rfl ?_ -- 90
      refine hM_ga M (by decide) rfl rfl (k := 5) (c := 9) rfl rfl rfl (by decide +kernel) rfl ?_ -- 91
      refine hM_ic (n := 0) rfl (by decide) rfl (fun x3 q3 => ?_) -- 94
      refine hI_dup2 rfl rfl rfl rfl ?_ -- 95
      refine hM_ia M (by decide) (K := 5) (R2 := 54) (L := 4) (H := 4) (lo := 0) (hi := 4) rfl (by decide) rfl rfl (fun _ => rfl) rfl q3 (by omega) (by omega) rfl (fun x4 q4 a4 b4 => ?_) -- 96
      refine hI_il (k := 1) rfl e2_1 rfl ?_ -- 97
      refine hM_ic (n := (-1)) rfl (by decide) rfl (fun x5 q5 => ?_) -- 98
      refine hM_cne (off := 7) (t := 106) rfl lq1 q5 (by decide) rfl (fun c99 => ?_) (fun c99 => ?_) -- 99
      · refine hM_ic (n := 0) rfl (by decide) rfl (fun x6 q6 => ?_) -- 106
        refine hM_add rfl q4 q6 (by omega) (by omega) rfl (fun x7 q7 => ?_) -- 107
        refine hM_is M (by decide) ok_49 (K := 5) (R2 := 54) (L := 4) (H := 4) (lo := 0) (hi := 4) rfl (by decide) rfl rfl rfl (fun _ => rfl) (d_subm hw (by decide +kernel)) rfl q3 q7 (by omega) (by omega) (by omega) (by omega) rfl (fun h8 V8 f8 M8 => ?_) -- 108
        refine hM_ic (n := 0) rfl (by decide) rfl (fun x9 q9 => ?_) -- 109
        refine hM_si (k := 3) rfl (by decide +kernel) rfl (fun lv10 e10_3 u10 => ?_) -- 110
        have e10_0 := u10 0 _ (by decide) (Or.inl rfl) e2_0
        have e10_1 := u10 1 _ (by decide) (Or.inl rfl) e2_1
        have e10_2 := u10 2 _ (by decide) (Or.inl rfl) e2_2
        exact g0 h8 V8 f8 x9 q9 lv10 M8 e10_0 e10_2 e10_3 c69 c76 a4 b4
      · exfalso; omega
    · refine hI_al (k := 0) rfl e0 rfl ?_ -- 79
      refine hM_ga M (by decide) rfl rfl (k := 5) (c := 9) rfl rfl rfl (by decide +kernel) rfl ?_ -- 80
      refine hM_ic (n := 0) rfl (by decide) rfl (fun x11 q11 => ?_) -- 83
      refine hM_ia M (by decide) (K := 5) (R2 := 54) (L := 4) (H := 4) (lo := 0) (hi := 4) rfl (by decide) rfl rfl (fun _ => rfl) rfl q11 (by omega) (by omega) rfl (fun x12 q12 a12 b12 => ?_) -- 84
      refine hI_go (pc' := 89) (off := 4) rfl (by decide) ?_ -- 85
      refine hM_si (k := 2) rfl (by decide +kernel) rfl (fun lv13 e13_2 u13 => ?_) -- 89
      have e13_0 := u13 0 _ (by decide) (Or.inl rfl) e0
      have e13_1 := u13 1 _ (by decide) (Or.inl rfl) e1
      refine hI_al (k := 0) rfl e13_0 rfl ?_ -- 90
      refine hM_ga M (by decide) rfl rfl (k := 5) (c := 9) rfl rfl rfl (by decide +kernel) rfl ?_ -- 91
      refine hM_ic (n := 0) rfl (by decide) rfl (fun x14 q14 => ?_) -- 94
      refine hI_dup2 rfl rfl rfl rfl ?_ -- 95
      refine hM_ia M (by decide) (K := 5) (R2 := 54) (L := 4) (H := 4) (lo := 0) (hi := 4) rfl (by decide) rfl rfl (fun _ => rfl) rfl q14 (by omega) (by omega) rfl (fun x15 q15 a15 b15 => ?_) -- 96
      refine hI_il (k := 1) rfl e13_1 rfl ?_ -- 97
      refine hM_ic (n := (-1)) rfl (by decide) rfl (fun x16 q16 => ?_) -- 98
      refine hM_cne (off := 7) (t := 106) rfl lq1 q16 (by decide) rfl (fun c99 => ?_) (fun c99 => ?_) -- 99
      · exfalso; omega
      · refine hM_ic (n := 1) rfl (by decide) rfl (fun x17 q17 => ?_) -- 102
        refine hI_go (pc' := 107) (off := 4) rfl (by decide) ?_ -- 103
        refine hM_add rfl q15 q17 (by omega) (by omega) rfl (fun x18 q18 => ?_) -- 107
        refine hM_is M (by decide) ok_49 (K := 5) (R2 := 54) (L := 4) (H := 4) (lo := 0) (hi := 4) rfl (by decide) rfl rfl rfl (fun _ => rfl) (d_subm hw (by decide +kernel)) rfl q14 q18 (by omega) (by omega) (by omega) (by omega) rfl (fun h19 V19 f19 M19 => ?_) -- 108
        refine hM_ic (n := 0) rfl (by decide) rfl (fun x20 q20 => ?_) -- 109
        refine hM_si (k := 3) rfl (by decide +kernel) rfl (fun lv21 e21_3 u21 => ?_) -- 110
        have e21_0 := u21 0 _ (by decide) (Or.inl rfl) e13_0
        have e21_1 := u21 1 _ (by decide) (Or.inl rfl) e13_1
        have e21_2 := u21 2 _ (by decide) (Or.inl rfl) e13_2
        exact g1 x12 q12 h19 V19 f19 x20 q20 lv21 M19 e21_0 e21_2 e21_3 c69 c76 a12 b12
  · refine hM_ic (n := (-1)) rfl (by decide) rfl (fun x22 q22 => ?_) -- 72
    refine hI_ri rfl rfl ?_ -- 73
    exact g2 x22 q22 c69
theorem s_mt111 {k i : Int} (M : MX 49 W ρ m A h0 h F V G) (e0 : m_lk lv 0 = some (.ref m)) {lx2 : Int32} (e2 : m_lk lv 2 = some (.int lx2)) (lq2 : lx2.toInt = k) {lx3 : Int32} (e3 : m_lk lv 3 = some (.int lx3)) (lq3 : lx3.toInt = i) (i0 : 0 ≤ i) (k0 : 0 ≤ k) (k3 : k ≤ 3) (t0 : 0 ≤ V 16 (0 : Int).toNat) (t1 : V 16 (0 : Int).toNat ≤ 40)(hw : d_sub [(55, 1001)] W = true)
    (g0 : i ≥ 161 → Q (some (.int lx2)) h)
    (g1 : ∀ h10 : MH, ∀ V10 : Nat → Nat → Int, V10 = m_u V 6 (m_u (V 6) ((161 * k) + i).toNat (0)) → ∀ x11 : Int32, x11.toInt = i + 1 → ∀ lv11 : List (Nat × Value), MX 49 W ρ m A h0 h10 F V10 G → m_lk lv11 0 = some (.ref m) → m_lk lv11 2 = some (.int lx2) → m_lk lv11 3 = some (.int x11) → i < 161 → i > 4 * (V 16 (0 : Int).toNat) → HJ 187 111 lv11 [] h10 Q)
    (g2 : ∀ h13 : MH, ∀ V13 : Nat → Nat → Int, V13 = m_u V 6 (m_u (V 6) ((161 * k) + i).toNat (V 16 (i).toNat)) → ∀ x14 : Int32, x14.toInt = i + 1 → ∀ lv14 : List (Nat × Value), MX 49 W ρ m A h0 h13 F V13 G → m_lk lv14 0 = some (.ref m) → m_lk lv14 2 = some (.int lx2) → m_lk lv14 3 = some (.int x14) → i < 161 → i ≤ 4 * (V 16 (0 : Int).toNat) → HJ 187 111 lv14 [] h13 Q)
    : HJ 187 111 lv [] h Q := by
  refine hI_il (k := 3) rfl e3 rfl ?_ -- 111
  refine hM_sp (n := 161) rfl (by decide) rfl (fun x1 q1 => ?_) -- 112
  refine hM_cge (off := 43) (t := 158) rfl lq3 q1 (by decide) rfl (fun c115 => ?_) (fun c115 => ?_) -- 115
  · refine hI_il (k := 2) rfl e2 rfl ?_ -- 158
    refine hI_ri rfl rfl ?_ -- 159
    exact g0 c115
  · refine hI_al (k := 0) rfl e0 rfl ?_ -- 118
    refine hM_ga M (by decide) rfl rfl (k := 6) (c := 9) rfl rfl rfl (by decide +kernel) rfl ?_ -- 119
    refine hM_sp (n := 161) rfl (by decide) rfl (fun x2 q2 => ?_) -- 122
    refine hI_il (k := 2) rfl e2 rfl ?_ -- 125
    refine hM_mul rfl q2 lq2 (by omega) (by omega) rfl (fun x3 q3 => ?_) -- 126
    refine hI_il (k := 3) rfl e3 rfl ?_ -- 127
    refine hM_add rfl q3 lq3 (by omega) (by omega) rfl (fun x4 q4 => ?_) -- 128
    refine hI_il (k := 3) rfl e3 rfl ?_ -- 129
    refine hM_ic (n := 4) rfl (by decide) rfl (fun x5 q5 => ?_) -- 130
    refine hI_al (k := 0) rfl e0 rfl ?_ -- 131
    refine hM_ga M (by decide) rfl rfl (k := 16) (c := 9) rfl rfl rfl (by decide +kernel) rfl ?_ -- 132
    refine hM_ic (n := 0) rfl (by decide) rfl (fun x6 q6 => ?_) -- 135
    refine hM_ia M (by decide) (K := 16) (R2 := 56) (L := 161) (H := 161) (lo := (-2147483648)) (hi := 2147483647) rfl (by decide) rfl rfl (fun _ => rfl) rfl q6 (by omega) (by omega) rfl (fun x7 q7 a7 b7 => ?_) -- 136
    refine hM_mul rfl q5 q7 (by omega) (by omega) rfl (fun x8 q8 => ?_) -- 137
    refine hM_cgt (off := 12) (t := 150) rfl lq3 q8 (by decide) rfl (fun c138 => ?_) (fun c138 => ?_) -- 138
    · refine hM_ic (n := 0) rfl (by decide) rfl (fun x9 q9 => ?_) -- 150
      refine hM_is M (by decide) ok_49 (K := 6) (R2 := 55) (L := 2576) (H := 2576) (lo := (-2147483648)) (hi := 2147483647) rfl (by decide) rfl rfl rfl (fun _ => rfl) (d_subm hw (by decide +kernel)) rfl q4 q9 (by omega) (by omega) (by omega) (by omega) rfl (fun h10 V10 f10 M10 => ?_) -- 151
      refine hM_inc (k := 3) (z := 1) rfl e3 lq3 (by decide) (by omega) (by omega) (by decide +kernel) rfl (fun lv11 x11 q11 e11_3 u11 => ?_) -- 152
      have e11_0 := u11 0 _ (by decide) (Or.inl rfl) e0
      have e11_2 := u11 2 _ (by decide) (Or.inl rfl) e2
      refine hI_go (pc' := 111) (off := (-44)) rfl (by decide) ?_ -- 155
      exact g1 h10 V10 f10 x11 q11 lv11 M10 e11_0 e11_2 e11_3 c115 c138
    · refine hI_al (k := 0) rfl e0 rfl ?_ -- 141
      refine hM_ga M (by decide) rfl rfl (k := 16) (c := 9) rfl rfl rfl (by decide +kernel) rfl ?_ -- 142
      refine hI_il (k := 3) rfl e3 rfl ?_ -- 145
      refine hM_ia M (by decide) (K := 16) (R2 := 56) (L := 161) (H := 161) (lo := (-2147483648)) (hi := 2147483647) rfl (by decide) rfl rfl (fun _ => rfl) rfl lq3 (by omega) (by omega) rfl (fun x12 q12 a12 b12 => ?_) -- 146
      refine hI_go (pc' := 151) (off := 4) rfl (by decide) ?_ -- 147
      refine hM_is M (by decide) ok_49 (K := 6) (R2 := 55) (L := 2576) (H := 2576) (lo := (-2147483648)) (hi := 2147483647) rfl (by decide) rfl rfl rfl (fun _ => rfl) (d_subm hw (by decide +kernel)) rfl q4 q12 (by omega) (by omega) (by omega) (by omega) rfl (fun h13 V13 f13 M13 => ?_) -- 151
      refine hM_inc (k := 3) (z := 1) rfl e3 lq3 (by decide) (by omega) (by omega) (by decide +kernel) rfl (fun lv14 x14 q14 e14_3 u14 => ?_) -- 152
      have e14_0 := u14 0 _ (by decide) (Or.inl rfl) e0
      have e14_2 := u14 2 _ (by decide) (Or.inl rfl) e2
      refine hI_go (pc' := 111) (off := (-44)) rfl (by decide) ?_ -- 155
      exact g2 h13 V13 f13 x14 q14 lv14 M13 e14_0 e14_2 e14_3 c115 c138
-- the row told, kept as the k-th
def mt_row (k : Nat) (U R R' : Nat → Int) : Prop := (∀ j, j < 161 → R' (161 * k + j) = if (j : Int) ≤ 4 * U 0 then U j else 0) ∧ ∀ j, j < 161 * k ∨ 161 * k + 161 ≤ j → R' j = R j
theorem l_mt111 {k : Nat} {xk : Int32} {Vs : Nat → Nat → Int} (hw : d_sub [(55, 1001)] W = true) (qk : xk.toInt = (k : Int)) (k3 : k ≤ 3) (u : 0 ≤ Vs 16 0 ∧ Vs 16 0 ≤ 40) (g : ∀ (h' : MH) (V' : Nat → Nat → Int), MX 49 W ρ m A h0 h' F V' G → mt_row k (Vs 16) (Vs 6) (V' 6) → (∀ K, K ≠ 6 → V' K = Vs K) → Q (some (.int xk)) h') : ∀ (d i : Nat) (lv : List (Nat × Value)) (h : MH) (V : Nat → Nat → Int) (xi : Int32), i + d = 161 → MX 49 W ρ m A h0 h F V G → xi.toInt = (i : Int) → (∀ j, j < i → V 6 (161 * k + j) = if (j : Int) ≤ 4 * Vs 16 0 then Vs 16 j else 0) → (∀ j, j < 161 * k ∨ 161 * k + i ≤ j → V 6 j = Vs 6 j) → (∀ K, K ≠ 6 → V K = Vs K) → m_lk lv 0 = some (.ref m) → m_lk lv 2 = some (.int xk) → m_lk lv 3 = some (.int xi) → HJ 187 111 lv [] h Q := by
  intro d
  induction d with
  | zero =>
    intro i lv h V xi hd M qi v1 v2 vo e0 e2 e3
    have hi : i = 161 := by omega
    subst hi
    have u2 : 0 ≤ V 16 0 ∧ V 16 0 ≤ 40 := by rw [vo 16 (by decide)]; exact u
    exact s_mt111 M e0 e2 qk e3 qi (by omega) (by omega) (by omega) u2.1 u2.2 hw (fun _ => g h V M ⟨v1, fun j hj => v2 j hj⟩ vo) (fun _ _ _ _ _ _ _ _ _ _ c => by omega) (fun _ _ _ _ _ _ _ _ _ _ c => by omega)
  | succ d ih =>
    intro i lv h V xi hd M qi v1 v2 vo e0 e2 e3
    have u2 : 0 ≤ V 16 0 ∧ V 16 0 ≤ 40 := by rw [vo 16 (by decide)]; exact u
    have hj : ((161 * (k : Int)) + (i : Int)).toNat = 161 * k + i := by omega
    have hi : ((i : Int)).toNat = i := by omega
    have step : ∀ (z : Int) (h1 : MH) (V1 : Nat → Nat → Int) (x1 : Int32) (lv1 : List (Nat × Value)), MX 49 W ρ m A h0 h1 F V1 G → V1 = m_u V 6 (m_u (V 6) ((161 * (k : Int)) + (i : Int)).toNat z) → z = (if (i : Int) ≤ 4 * Vs 16 0 then Vs 16 i else 0) → x1.toInt = (i : Int) + 1 → m_lk lv1 0 = some (.ref m) → m_lk lv1 2 = some (.int xk) → m_lk lv1 3 = some (.int x1) → HJ 187 111 lv1 [] h1 Q := fun z h1 V1 x1 lv1 M1 f1 hz q1 d0 d2 d3 => by
      rw [hj] at f1
      refine ih (i + 1) lv1 h1 V1 x1 (by omega) M1 (by omega) (fun j hj2 => ?_) (fun j hj2 => ?_) (fun K hK => by rw [f1, m_uN _ _ _ _ hK]; exact vo K hK) d0 d2 d3
      · rw [f1, m_uE]
        by_cases e : j = i
        · subst e
          rw [m_uE]
          exact hz
        · rw [m_uN _ _ _ _ (by omega)]
          exact v1 j (by omega)
      · rw [f1, m_uE, m_uN _ _ _ _ (by omega)]
        exact v2 j (by omega)
    refine s_mt111 M e0 e2 qk e3 qi (by omega) (by omega) (by omega) u2.1 u2.2 hw (fun c => by omega) (fun h10 V10 f10 x11 q11 lv11 M10 d0 d2 d3 c1 c2 => ?_) (fun h13 V13 f13 x14 q14 lv14 M13 d0 d2 d3 c1 c2 => ?_)
    · have c2 : (i : Int) > 4 * V 16 0 := c2
      rw [vo 16 (by decide)] at c2
      exact step 0 h10 V10 x11 lv11 M10 f10 (by rw [if_neg (by omega)]) q11 d0 d2 d3
    · have c2 : (i : Int) ≤ 4 * V 16 0 := c2
      rw [hi, vo 16 (by decide)] at f13
      rw [vo 16 (by decide)] at c2
      exact step _ h13 V13 x14 lv14 M13 f13 (by rw [if_pos c2]) q14 d0 d2 d3
def w_mtx : List (Nat × Nat) := [(49, 0), (49, 8), (51, 1001), (54, 1001), (55, 1001)] ++ w_mrt
-- what a text leaves of what is told: no such row; a fault; a row
def mt_no (V V' : Nat → Nat → Int) : Prop := (V' 2 = m_u (V 2) 0 0 ∧ V' 3 = m_u (V 3) 0 0 ∧ V' 4 = m_u (V 4) 0 (-1)) ∧ ∀ K, K ≠ 2 → K ≠ 3 → K ≠ 4 → V' K = V K
def mt_ft (S : RLS) (V V' : Nat → Nat → Int) : Prop := (V' 2 = m_u (V 2) 0 0 ∧ V' 3 = m_u (V 3) 0 (ls_f S) ∧ V' 4 = m_u (V 4) 0 (ls_l S)) ∧ ∀ K, K ≠ 2 → K ≠ 3 → K ≠ 4 → K ≠ 16 → V' K = V K
def mt_ok (S : RLS) (k : Nat) (z : Int) (V V' : Nat → Nat → Int) : Prop := (V' 2 = m_u (V 2) 0 0 ∧ V' 3 = m_u (V 3) 0 0 ∧ V' 4 = m_u (V 4) 0 (-1) ∧ V' 5 = m_u (V 5) 0 z) ∧ (V' 6 (161 * k) = (ls_g S : Int) ∧ (∀ j, j < ls_g S → ∀ i, i < 4 → V' 6 (161 * k + 1 + 4 * j + i) = ls_t S (4 * j + 1 + i)) ∧ ∀ j, j < 161 * k ∨ 161 * k + 161 ≤ j → V' 6 j = V 6 j) ∧ ∀ K, K ≠ 2 → K ≠ 3 → K ≠ 4 → K ≠ 5 → K ≠ 6 → K ≠ 16 → V' K = V K
theorem c_mtext {a : Int} {xa : Int32} (M : MX 49 W ρ m A h0 h F V G) (hw : d_sub w_mtx W = true) (qa : xa.toInt = a)
    (g : ∀ (x : Int32) (h' : MH) (F' : Nat → Int) (V' : Nat → Nat → Int), MX 49 W ρ m A h0 h' F' V' G →
      (x.toInt = -2 ∧ ((a = -1 ∧ V 5 0 = 4) ∨ (a ≠ -1 ∧ (a < 0 ∨ V 5 0 ≤ a))) ∧ mt_no V V') ∨
      (((a = -1 ∧ V 5 0 ≤ 3) ∨ (a ≠ -1 ∧ 0 ≤ a ∧ a < V 5 0)) ∧ ((x.toInt = -1 ∧ ls_f (rd_tx (V 1) (V 2 0).toNat) ≠ 0 ∧ mt_ft (rd_tx (V 1) (V 2 0).toNat) V V') ∨ (ls_f (rd_tx (V 1) (V 2 0).toNat) = 0 ∧ ∃ k : Nat, x.toInt = (k : Int) ∧ (k : Int) = (if a = -1 then V 5 0 else a) ∧ k ≤ 3 ∧ mt_ok (rd_tx (V 1) (V 2 0).toNat) k (if a = -1 then V 5 0 + 1 else V 5 0) V V'))) → Q (some (.int x)) h') : HJ 187 0 (lv_args 0 [.ref m, .int xa]) [] h Q := by
  have b5 : 0 ≤ V 5 0 ∧ V 5 0 ≤ 4 := by
    have := M.vi (by decide) (K := 5) (R2 := 54) rfl (by decide) (rs2 := _) rfl (L := 4) (H := 4) (kd := 20) rfl (lo := 0) (hi := 4) 0 rfl (by decide)
    exact this
  have head : ∀ (h14 : MH) (F5 : Nat → Int) (V14 : Nat → Nat → Int), MX 49 W ρ m A h0 h14 F5 V14 G → F5 8 = V 2 0 → 0 ≤ V 2 0 → V 2 0 ≤ 600 → mt_no V V14 → ((a = -1 ∧ V 5 0 ≤ 3) ∨ (a ≠ -1 ∧ 0 ≤ a ∧ a < V 5 0)) → HJ 187 65 (lv_args 0 [.ref m, .int xa]) [] h14 Q := fun h14 F5 V14 M14 f8 n0 n6 no hc => by
    obtain ⟨⟨n2, n3, n4⟩, nK⟩ := no
    have v1 : V14 1 = V 1 := nK 1 (by decide) (by decide) (by decide)
    have v5 : V14 5 = V 5 := nK 5 (by decide) (by decide) (by decide)
    have v6 : V14 6 = V 6 := nK 6 (by decide) (by decide) (by decide)
    have en : F5 8 = (((V 2 0).toNat : Nat) : Int) := by omega
    refine s_mt65 M14 rfl rfl qa (c_mread M14 (d_subm hw (by decide +kernel)) en (by omega) (fun x h' F' V' hx M' y3 y4 yK ytd yu => ?_))
    rw [v1] at hx y3 y4 ytd
    obtain ⟨Z, hZ⟩ : ∃ Z, Z = rd_tx (V 1) (V 2 0).toNat := ⟨_, rfl⟩
    have ok := ls_okT (T := V 1) (n := (V 2 0).toNat)
    rw [← hZ] at hx y3 y4 ytd g ok
    have w3 : V' 3 = m_u (V 3) 0 (ls_f Z) := by
      rw [y3, n3]
      exact funext (fun j => by
        by_cases e : j = 0
        · rw [e, m_uE, m_uE]
        · rw [m_uN _ _ _ _ e, m_uN _ _ _ _ e, m_uN _ _ _ _ e])
    have w4 : V' 4 = m_u (V 4) 0 (ls_l Z) := by
      rw [y4, n4]
      exact funext (fun j => by
        by_cases e : j = 0
        · rw [e, m_uE, m_uE]
        · rw [m_uN _ _ _ _ e, m_uN _ _ _ _ e, m_uN _ _ _ _ e])
    have w2 : V' 2 = m_u (V 2) 0 0 := by rw [yK 2 (by decide) (by decide) (by decide)]; exact n2
    have w5 : V' 5 = V 5 := by rw [yK 5 (by decide) (by decide) (by decide)]; exact v5
    have w6 : V' 6 = V 6 := by rw [yK 6 (by decide) (by decide) (by decide)]; exact v6
    have wK : ∀ K, K ≠ 2 → K ≠ 3 → K ≠ 4 → K ≠ 16 → V' K = V K := fun K k2 k3 k4 k16 => by rw [yK K k3 k4 k16]; exact nK K k2 k3 k4
    show HJ 187 69 (lv_args 0 [.ref m, .int xa]) [.int x] h' Q
    have row : ls_f Z = 0 → ∀ (k : Nat) (z : Int) (xk x9 : Int32) (lv : List (Nat × Value)) (h8 : MH) (V8 : Nat → Nat → Int), MX 49 W ρ m A h0 h8 F' V8 G → V8 = m_u V' 5 (m_u (V' 5) 0 z) → xk.toInt = (k : Int) → (k : Int) = (if a = -1 then V 5 0 else a) → z = (if a = -1 then V 5 0 + 1 else V 5 0) → k ≤ 3 → x9.toInt = 0 → m_lk lv 0 = some (.ref m) → m_lk lv 2 = some (.int xk) → m_lk lv 3 = some (.int x9) → HJ 187 111 lv [] h8 Q := fun z0 k z xk x9 lv h8 V8 M8 f8 qk hk hz k3 q9 e0 e2 e3 => by
      have td := ytd z0
      have g40 := (ok.1 z0).2
      have t0 : V8 16 0 = (ls_g Z : Int) := by
        rw [f8, m_uN _ _ _ _ (by decide), td.1, if_pos g40]
      have tu : V8 16 = V' 16 := by rw [f8, m_uN _ _ _ _ (by decide)]
      refine l_mt111 (k := k) (Vs := V8) (d_subm hw (by decide +kernel)) qk k3 (by omega) (fun h9 V9 M9 r9 o9 => ?_) 161 0 lv h8 V8 x9 (by decide) M8 q9 (fun j hj => absurd hj (Nat.not_lt_zero j)) (fun _ _ => rfl) (fun _ _ => rfl) e0 e2 e3
      refine g xk h9 F' V9 M9 (Or.inr ⟨hc, Or.inr ⟨z0, k, qk, hk, k3, ⟨?_, ?_, ?_, ?_⟩, ⟨?_, fun j hj i hi => ?_, fun j hj => ?_⟩, fun K k2 k3 k4 k5 k6 k16 => ?_⟩⟩)
      · rw [o9 2 (by decide), f8, m_uN _ _ _ _ (by decide)]
        exact w2
      · rw [o9 3 (by decide), f8, m_uN _ _ _ _ (by decide), w3, z0]
      · rw [o9 4 (by decide), f8, m_uN _ _ _ _ (by decide), w4, (ok.1 z0).1]
      · rw [o9 5 (by decide), f8, m_uE, w5, hz]
      · have := r9.1 0 (by decide)
        rw [if_pos (by rw [t0]; omega), t0] at this
        exact this
      · have := r9.1 (1 + 4 * j + i) (by omega)
        rw [if_pos (by rw [t0]; omega), tu, show 1 + 4 * j + i = 4 * j + 1 + i by omega, td.2 j (by omega) hj i hi] at this
        rw [show 161 * k + 1 + 4 * j + i = 161 * k + (4 * j + 1 + i) by omega]
        exact this
      · rw [r9.2 j hj, f8, m_uN _ _ _ _ (by decide), w6]
      · rw [o9 K k6, f8, m_uN _ _ _ _ k5]
        exact wK K k2 k3 k4 k16
    have w50 : V' 5 0 = V 5 0 := by rw [w5]
    have m3 : a = -1 → V' 5 0 ≤ 3 := fun e => by omega
    rcases hx with ⟨qx, z0⟩ | ⟨qx, z0⟩
    · refine s_mt69 M' rfl rfl qa qx m3 (d_subm hw (by decide +kernel)) (fun h8 V8 f8 x9 q9 lv10 M8 d0 d2 d3 _ c76 _ _ => ?_) (fun x12 q12 h19 V19 f19 x20 q20 lv21 M19 d0 d2 d3 _ c76 _ _ => ?_) (fun _ _ c => absurd c (by decide))
      · exact row z0 a.toNat (V' 5 0 + 0) xa x9 lv10 h8 V8 M8 f8 (by omega) (by rw [if_neg c76]; omega) (by rw [if_neg c76]; omega) (by omega) q9 d0 d2 d3
      · have q12 : x12.toInt = V' 5 0 := q12
        exact row z0 (V 5 0).toNat (V' 5 0 + 1) x12 x20 lv21 h19 V19 M19 f19 (by omega) (by rw [if_pos c76]; omega) (by rw [if_pos c76]; omega) (by omega) q20 d0 d2 d3
    · exact s_mt69 M' rfl rfl qa qx m3 (d_subm hw (by decide +kernel)) (fun _ _ _ _ _ _ _ _ _ _ c => absurd rfl c) (fun _ _ _ _ _ _ _ _ _ _ _ _ c => absurd rfl c) (fun x22 q22 _ => g x22 h' F' V' M' (Or.inr ⟨hc, Or.inl ⟨q22, z0, ⟨w2, w3, w4⟩, wK⟩⟩))
  have mk : ∀ {V8 V11 V14 : Nat → Nat → Int}, V8 = m_u V 2 (m_u (V 2) 0 0) → V11 = m_u V8 3 (m_u (V8 3) 0 0) → V14 = m_u V11 4 (m_u (V11 4) 0 (-1)) → mt_no V V14 := fun {V8 V11 V14} f8 f11 f14 => by
    refine ⟨⟨?_, ?_, ?_⟩, fun K k2 k3 k4 => ?_⟩
    · rw [f14, m_uN _ _ _ _ (by decide), f11, m_uN _ _ _ _ (by decide), f8, m_uE]
    · rw [f14, m_uN _ _ _ _ (by decide), f11, m_uE, f8, m_uN _ _ _ _ (by decide)]
    · rw [f14, m_uE, f11, m_uN _ _ _ _ (by decide), f8, m_uN _ _ _ _ (by decide)]
    · rw [f14, m_uN _ _ _ _ k4, f11, m_uN _ _ _ _ k3, f8, m_uN _ _ _ _ k2]
  refine s_mt0 M rfl rfl qa (d_subm hw (by decide +kernel)) (fun h2 F2 f2 h5 F5 f5 h8 V8 f8 h11 V11 f11 h14 V14 f14 M14 a4 b4 c38 => ?_) (fun h2 F2 f2 h5 F5 f5 h8 V8 f8 h11 V11 f11 h14 V14 f14 M14 a4 b4 c38 a17 b17 c48 => ?_) (fun h2 F2 f2 h5 F5 f5 h8 V8 f8 h11 V11 f11 h14 V14 f14 x19 q19 M14 a4 b4 c38 a17 b17 c48 => ?_)
  · have no := mk f8 f11 f14
    have v5 : V14 5 0 = V 5 0 := by rw [no.2 5 (by decide) (by decide) (by decide)]
    refine c_isRx M14 qa (fun z hz => s_mt59 (z := z.toInt) M14 rfl rfl qa rfl (fun c => ?_) (fun x1 q1 c => ?_))
    · exact head h14 F5 V14 M14 (by rw [f5, m_uE]; rfl) a4 b4 no (Or.inr ⟨c38, by omega, by omega⟩)
    · exact g x1 h14 F5 V14 M14 (Or.inl ⟨q1, Or.inr ⟨c38, by omega⟩, no⟩)
  · have c48 : V 5 0 ≠ 4 := c48
    exact head h14 F5 V14 M14 (by rw [f5, m_uE]; rfl) a4 b4 (mk f8 f11 f14) (Or.inl ⟨c38, by omega⟩)
  · exact g x19 h14 F5 V14 M14 (Or.inl ⟨q19, Or.inl ⟨c38, c48⟩, mk f8 f11 f14⟩)
end
