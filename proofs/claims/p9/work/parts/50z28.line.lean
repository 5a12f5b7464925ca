-- A LINE, AS THE CLASS READS IT
def ar_ok (Fa : Nat → Int) (Va : Nat → Nat → Int) (g : Nat) (t : Nat → Int) : Prop := Fa 2 = (((if g ≤ 40 then g else 40) : Nat) : Int) ∧ ∀ k, k < 40 → k < g → Va 0 k = t (4 * k + 1) ∧ ∀ i, i < 3 → Va 1 (3 * k + i) = t (4 * k + 2 + i)
theorem ar_up {Fa : Nat → Int} {Va : Nat → Nat → Int} {g : Nat} {t : Nat → Int} (h : ar_ok Fa Va g t) (g40 : 40 ≤ g) : ar_ok Fa Va (g + 1) t := by
  refine ⟨?_, fun k hk _ => h.2 k hk (by omega)⟩
  have e := h.1
  by_cases c : g ≤ 40
  · have c2 : g = 40 := by omega
    subst c2
    exact e.trans rfl
  · rw [if_neg c] at e
    rw [if_neg (show ¬ g + 1 ≤ 40 by omega)]
    exact e
theorem ar_beg {Fa Fa' : Nat → Int} {Va Va' : Nat → Nat → Int} {g : Nat} {v : Int} {t : Nat → Int} (h : ar_ok Fa Va g t) (g40 : g < 40) (f2 : Fa' 2 = ((g + 1 : Nat) : Int)) (v0 : Va' 0 = m_u (Va 0) g v) (v1 : ∀ j, Va' 1 j = if 3 * g ≤ j ∧ j < 3 * g + 3 then -1 else Va 1 j) : ar_ok Fa' Va' (g + 1) (rd_bt g v t) := by
  refine ⟨by rw [f2, if_pos (by omega)], fun k hk kg => ?_⟩
  unfold rd_bt
  by_cases e : k = g
  · subst e
    refine ⟨?_, fun i hi => ?_⟩
    · rw [v0, m_uE, m_uN _ _ _ _ (by omega), m_uN _ _ _ _ (by omega), m_uN _ _ _ _ (by omega), m_uE]
    · rw [v1, if_pos (by omega)]
      rcases (show i = 0 ∨ i = 1 ∨ i = 2 by omega) with rfl | rfl | rfl
      · rw [m_uN _ _ _ _ (by omega), m_uN _ _ _ _ (by omega), show 4 * k + 2 + 0 = 4 * k + 2 from rfl, m_uE]
      · rw [m_uN _ _ _ _ (by omega), show 4 * k + 2 + 1 = 4 * k + 3 from rfl, m_uE]
      · rw [show 4 * k + 2 + 2 = 4 * k + 4 from rfl, m_uE]
  · obtain ⟨h1, h2⟩ := h.2 k hk (by omega)
    refine ⟨?_, fun i hi => ?_⟩
    · rw [v0, m_uN _ _ _ _ e, h1, m_uN _ _ _ _ (by omega), m_uN _ _ _ _ (by omega), m_uN _ _ _ _ (by omega), m_uN _ _ _ _ (by omega)]
    · rw [v1, if_neg (by omega), h2 i hi, m_uN _ _ _ _ (by omega), m_uN _ _ _ _ (by omega), m_uN _ _ _ _ (by omega), m_uN _ _ _ _ (by omega)]
theorem ar_num {Fa : Nat → Int} {Va : Nat → Nat → Int} {g i : Nat} {v : Int} {t : Nat → Int} (h : ar_ok Fa Va g t) (g1 : 1 ≤ g) (g40 : g ≤ 40) (hi : i < 3) : ar_ok Fa (m_u Va 1 (m_u (Va 1) (3 * (g - 1) + i) v)) g (m_u t (4 * (g - 1) + 2 + i) v) := by
  refine ⟨h.1, fun k hk kg => ?_⟩
  obtain ⟨h1, h2⟩ := h.2 k hk kg
  refine ⟨?_, fun j hj => ?_⟩
  · rw [m_uN _ _ _ _ (by decide), h1, m_uN _ _ _ _ (by omega)]
  · rw [m_uE]
    by_cases e : k = g - 1 ∧ j = i
    · obtain ⟨e1, e2⟩ := e
      subst e1 e2
      rw [m_uE, m_uE]
    · rw [m_uN _ _ _ _ (by omega), h2 j hj, m_uN _ _ _ _ (by omega)]
theorem rd_numsP {T : Nat → Int} {n : Nat} : ∀ (l : List Int) (i : Nat) (S : RLS), ls_p S ≤ n → ls_p S ≤ ls_p (rd_nums T n l i S).2 ∧ ls_p (rd_nums T n l i S).2 ≤ n
  | [], _, S, h => ⟨Nat.le_refl _, h⟩
  | x :: r, i, S, h => by
    have tb := (rd_tkB (T := T) (n := n) (p := ls_p S) h).1
    rw [rd_nums]
    split
    · have e := (rd_numE (l := x) (i := i) (q := rd_tk T n (ls_p S)) (S := S)).1
      have := rd_numsP (T := T) r (i + 1) (rd_num x i (rd_tk T n (ls_p S)) S) (by rw [e]; exact tb.2.2)
      rw [e] at this
      omega
    · show ls_p S ≤ rt_b (rd_tk T n (ls_p S)) ∧ rt_b (rd_tk T n (ls_p S)) ≤ n
      omega
-- what stands still while a text is read
def rd_env (W : List (Nat × Nat)) (ρ : Nat → Nat) (h0 : MH) : Prop := (∀ k, k < 6 → ρ (2 + k) = 2 ∧ ρ (8 + k) = 3) ∧ ρ 1 = 1 ∧ d_no [(2, 1001), (2, 1002), (3, 1001), (3, 1002)] W = true ∧ d_no [(1, 1001), (1, 1002)] W = true ∧ sb_ok h0 ∧ lim_ok h0
theorem env_at {W : List (Nat × Nat)} {ρ : Nat → Nat} {h0 h : MH} (H : rd_env W ρ h0) (f : FS ρ W h0 h) : sb_ok h ∧ lim_ok h := ⟨sb_fs H.1 H.2.2.1 f H.2.2.2.2.1, lim_fs H.2.1 H.2.2.2.1 f H.2.2.2.2.2⟩
section
variable {lv : List (Nat × Value)} {Q : Option Value → MH → Prop} {W : List (Nat × Nat)} {ρ : Nat → Nat} {m a : Nat} {A B : Nat → Nat} {h0 h : MH} {F Fa : Nat → Int} {V Va : Nat → Nat → Int} {G Ga : Nat → Nat → Int64}
def w_rd : List (Nat × Nat) := [(106, 2), (106, 3), (106, 4), (106, 5), (106, 6), (106, 7), (106, 8), (103, 2), (104, 1001), (105, 1001)]
-- both objects, told together
theorem c_tok2 {n p : Nat} (H : rd_env W ρ h0) (M : MX 106 W ρ m A h0 h F V G) (MA : MX 103 W ρ a B h0 h Fa Va Ga) (hw : d_sub w_rd W = true) (q1 : F 1 = (n : Int)) (q3 : F 3 = (p : Int)) (pn : p ≤ n) (g : ∀ (h' : MH) (F' : Nat → Int), MX 106 W ρ m A h0 h' F' V G → MX 103 W ρ a B h0 h' Fa Va Ga → F' 2 = (rt_s (rd_tk (V 0) n p) : Int) → F' 3 = (rt_b (rd_tk (V 0) n p) : Int) → F' 4 = rt_t (rd_tk (V 0) n p) → (F' 4 = 1 ∨ F' 4 = 2 → F' 5 = rt_v (rd_tk (V 0) n p)) → (∀ K, K ≠ 2 → K ≠ 3 → K ≠ 4 → K ≠ 5 → F' K = F K) → Q none h') : HJ 16 0 (lv_args 0 [.ref m]) [] h Q :=
  c_nt (MX.again M w_rt) (by decide +kernel) (tl_mk H.1 (by decide +kernel) (env_at H M.1.2.2).1) q1 q3 pn (fun h' F' M' a1 a2 a3 a4 a5 => g h' F' (M.re M' (d_subm hw (by decide +kernel))) (MA.stay (by decide) M'.1.1 M'.1.2.2 (d_subm hw (by decide +kernel)) (by decide +kernel)) a1 a2 a3 a4 a5)
theorem c_gn2 {s : Nat} (M : MX 106 W ρ m A h0 h F V G) (MA : MX 103 W ρ a B h0 h Fa Va Ga) (hw : d_sub w_rd W = true) (q2 : F 2 = (s : Int)) (g : ∀ (x : Int32) (h' : MH) (F' : Nat → Int), x.toInt = 0 → MX 106 W ρ m A h0 h' F' V G → MX 103 W ρ a B h0 h' Fa Va Ga → F' 7 = 1 → F' 8 = (s : Int) → (∀ K, K ≠ 7 → K ≠ 8 → F' K = F K) → Q (some (.int x)) h') : HJ 34 0 (lv_args 0 [.ref m]) [] h Q :=
  c_gn (MX.again M [(106, 7), (106, 8)]) (by decide +kernel) q2 (fun x h' F' q M' a1 a2 a3 => g x h' F' q (M.re M' (d_subm hw (by decide +kernel))) (MA.stay (by decide) M'.1.1 M'.1.2.2 (d_subm hw (by decide +kernel)) (by decide +kernel)) a1 a2 a3)
theorem c_note2 {w p : Int} {xw xp : Int32} (M : MX 106 W ρ m A h0 h F V G) (MA : MX 103 W ρ a B h0 h Fa Va Ga) (hw : d_sub w_rd W = true) (qw : xw.toInt = w) (qp : xp.toInt = p) (g : ∀ (h' : MH) (F' : Nat → Int), MX 106 W ρ m A h0 h' F' V G → MX 103 W ρ a B h0 h' Fa Va Ga → F' 7 = (if F 7 = 0 then w else F 7) → F' 8 = (if F 7 = 0 then p else F 8) → (∀ K, K ≠ 7 → K ≠ 8 → F' K = F K) → Q none h') : HJ 35 0 (lv_args 0 [.ref m, .int xw, .int xp]) [] h Q :=
  c_note (MX.again M [(106, 7), (106, 8)]) (by decide +kernel) qw qp (fun h' F' M' a1 a2 a3 => g h' F' (M.re M' (d_subm hw (by decide +kernel))) (MA.stay (by decide) M'.1.1 M'.1.2.2 (d_subm hw (by decide +kernel)) (by decide +kernel)) a1 a2 a3)
theorem c_beg2 {g : Nat} {k : Int} {xk : Int32} (M : MX 106 W ρ m A h0 h F V G) (MA : MX 103 W ρ a B h0 h Fa Va Ga) (hw : d_sub w_rd W = true) (q2 : Fa 2 = (g : Int)) (g40 : g < 40) (qk : xk.toInt = k) (gg : ∀ (h' : MH) (Fa' : Nat → Int) (Va' : Nat → Nat → Int), MX 106 W ρ m A h0 h' F V G → MX 103 W ρ a B h0 h' Fa' Va' Ga → Fa' 2 = ((g + 1 : Nat) : Int) → Va' 0 = m_u (Va 0) g k → (∀ j, Va' 1 j = if 3 * g ≤ j ∧ j < 3 * g + 3 then -1 else Va 1 j) → Q none h') : HJ 36 0 (lv_args 0 [.ref a, .int xk]) [] h Q :=
  c_begin (MX.again MA w_ac) (by decide +kernel) q2 g40 qk (fun h' F' V' M' a1 a2 a3 => gg h' F' V' (M.stay (by decide) M'.1.1 M'.1.2.2 (d_subm hw (by decide +kernel)) (by decide +kernel)) (MA.re M' (d_subm hw (by decide +kernel))) a1 a2 a3)
theorem c_tell2 {g i : Nat} {v : Int} {xi xv : Int32} (M : MX 106 W ρ m A h0 h F V G) (MA : MX 103 W ρ a B h0 h Fa Va Ga) (hw : d_sub w_rd W = true) (q2 : Fa 2 = (g : Int)) (g1 : 1 ≤ g) (qi : xi.toInt = (i : Int)) (i3 : i < 3) (qv : xv.toInt = v) (gg : ∀ h' : MH, MX 106 W ρ m A h0 h' F V G → MX 103 W ρ a B h0 h' Fa (m_u Va 1 (m_u (Va 1) (3 * (g - 1) + i) v)) Ga → Q none h') : HJ 39 0 (lv_args 0 [.ref a, .int xi, .int xv]) [] h Q :=
  c_tell (MX.again MA w_ac) (by decide +kernel) q2 g1 qi i3 qv (fun h' V' M' e => gg h' (M.stay (by decide) M'.1.1 M'.1.2.2 (d_subm hw (by decide +kernel)) (by decide +kernel)) (by rw [← e]; exact MA.re M' (d_subm hw (by decide +kernel))))
-- the reading's state, as the class has it
def RR (W : List (Nat × Nat)) (ρ : Nat → Nat) (m : Nat) (A : Nat → Nat) (a : Nat) (B : Nat → Nat) (h0 : MH) (V : Nat → Nat → Int) (G Ga : Nat → Nat → Int64) (n : Nat) (S : RLS) (h : MH) : Prop := ∃ (F Fa : Nat → Int) (Va : Nat → Nat → Int), (MX 106 W ρ m A h0 h F V G ∧ MX 103 W ρ a B h0 h Fa Va Ga) ∧ (F 1 = (n : Int) ∧ F 3 = (ls_p S : Int) ∧ F 6 = (ls_g S : Int) ∧ F 7 = ls_f S ∧ F 8 = ls_l S) ∧ ar_ok Fa Va (ls_g S) (ls_t S) ∧ ls_p S ≤ n ∧ ls_g S ≤ ls_p S
-- numbers
theorem l_nums {n k : Nat} {xk xt : Int32} {R : Bool × RLS} (H : rd_env W ρ h0) (hw : d_sub w_rd W = true) (k6 : k < 6) (qk : xk.toInt = (k : Int)) (n6 : n ≤ 600) (gT : R.1 = true → ∀ (lv : List (Nat × Value)) (h : MH), RR W ρ m A a B h0 V G Ga n R.2 h → m_lk lv 0 = some (.ref m) → m_lk lv 1 = some (.ref a) → HJ 15 171 lv [] h Q) (gF : R.1 = false → ∀ (x : Int32) (h : MH), x.toInt = 0 → RR W ρ m A a B h0 V G Ga n R.2 h → Q (some (.int x)) h) : ∀ (d i : Nat) (lv : List (Nat × Value)) (h : MH) (S : RLS) (xi : Int32), i + d = 3 → RR W ρ m A a B h0 V G Ga n S h → (xt.toInt = 0 ↔ ls_g S ≤ 40) → 1 ≤ ls_g S → rd_nums (V 0) n ((rd_lim (k : Int)).drop i) i S = R → xi.toInt = (i : Int) → m_lk lv 0 = some (.ref m) → m_lk lv 1 = some (.ref a) → m_lk lv 2 = some (.int xk) → m_lk lv 3 = some (.int xt) → m_lk lv 4 = some (.int xi) → HJ 15 88 lv [] h Q := by
  intro d
  induction d with
  | zero =>
    intro i lv h S xi hd RS tg g1 eR qi e0 e1 e2 e3 e4
    have i3 : i = 3 := by omega
    subst i3
    rw [lm_3 k6] at eR
    obtain ⟨F, Fa, Va, ⟨M, MA⟩, c1, c2, c3, c4⟩ := id RS
    have RS : RR W ρ m A a B h0 V G Ga n R.2 h := by rw [← eR]; exact RS
    exact s_rl88 M e0 e1 MA.1.2.1 e2 qk e3 rfl e4 qi (env_at H M.1.2.2).2 (by omega) (by omega) (by omega) (fun _ => gT (by rw [← eR]; rfl) lv h RS e0 e1) (fun c _ => by omega) (fun c _ => by omega)
  | succ d ih =>
    intro i lv h S xi hd RS tg g1 eR qi e0 e1 e2 e3 e4
    obtain ⟨F, Fa, Va, ⟨M, MA⟩, ⟨f1, f3, f6, f7, f8⟩, ao, pn, gp⟩ := id RS
    have hk3 : ((k : Int) * 3 + (i : Int)).toNat = 3 * k + i := by omega
    refine s_rl88 M e0 e1 MA.1.2.1 e2 qk e3 rfl e4 qi (env_at H M.1.2.2).2 (by omega) (by omega) (by omega) (fun c => by omega) (fun _ c => ?_) (fun _ c => ?_)
    · rw [hk3] at c
      have hL := (lm_lim k6 (show i < 3 by omega)).resolve_right (fun z => z.1 c)
      rw [hL.2] at eR
      exact gT (by rw [← eR]; rfl) lv h (by rw [← eR]; exact RS) e0 e1
    · rw [hk3] at c
      have hL := ((lm_lim k6 (show i < 3 by omega)).resolve_left (fun z => c z.1)).2
      rw [hL, rd_nums] at eR
      have tb := rd_tkB (T := V 0) (n := n) (p := ls_p S) pn
      refine c_tok2 H M MA hw f1 f3 pn (fun h1 F1 M1 MA1 a2 a3 a4 a5 a6 => ?_)
      have b1 : F1 1 = (n : Int) := by rw [a6 1 (by decide) (by decide) (by decide) (by decide)]; exact f1
      have b6 : F1 6 = (ls_g S : Int) := by rw [a6 6 (by decide) (by decide) (by decide) (by decide)]; exact f6
      have b7 : F1 7 = ls_f S := by rw [a6 7 (by decide) (by decide) (by decide) (by decide)]; exact f7
      have b8 : F1 8 = ls_l S := by rw [a6 8 (by decide) (by decide) (by decide) (by decide)]; exact f8
      generalize hq : rd_tk (V 0) n (ls_p S) = q at eR a2 a3 a4 a5 tb
      obtain ⟨⟨t1, t2, t3⟩, t4, t5, t6, t7, t8⟩ := tb
      -- behind a number that is no number
      have nonum : rt_t q ≠ 2 → ∀ (x : Int32) (h2 : MH) (F2 : Nat → Int), x.toInt = 0 → MX 106 W ρ m A h0 h2 F2 V G → MX 103 W ρ a B h0 h2 Fa Va Ga → F2 7 = 1 → F2 8 = (rt_s q : Int) → (∀ K, K ≠ 7 → K ≠ 8 → F2 K = F1 K) → Q (some (.int x)) h2 := fun cq x h2 F2 qx M2 MA2 d7 d8 dd => by
        rw [if_neg cq] at eR
        have hR : R.1 = false ∧ R.2 = ls_bad (rt_s q) (ls_at (rt_b q) S) := by rw [← eR]; exact ⟨rfl, rfl⟩
        refine gF hR.1 x h2 qx ?_
        rw [hR.2]
        exact ⟨F2, Fa, Va, ⟨M2, MA2⟩, ⟨by rw [dd 1 (by decide) (by decide)]; exact b1, by rw [dd 3 (by decide) (by decide)]; exact a3, by rw [dd 6 (by decide) (by decide)]; exact b6, d7, d8⟩, ao, t3, by show ls_g S ≤ rt_b q; omega⟩
      -- behind a number, its place noted or not
      have num : rt_t q = 2 → ∀ (h2 : MH) (F2 : Nat → Int), MX 106 W ρ m A h0 h2 F2 V G → MX 103 W ρ a B h0 h2 Fa Va Ga → F2 7 = ls_f (rd_num (lm_at (3 * k + i)) i q S) → F2 8 = ls_l (rd_num (lm_at (3 * k + i)) i q S) → (∀ K, K ≠ 7 → K ≠ 8 → F2 K = F1 K) → HJ 15 151 lv [] h2 Q := fun cq h2 F2 M2 MA2 d7 d8 dd => by
        rw [if_pos cq] at eR
        obtain ⟨n1, n2, n3, -, -⟩ := rd_numE (l := lm_at (3 * k + i)) (i := i) (q := q) (S := S)
        have v5 : F2 5 = rt_v q := by rw [dd 5 (by decide) (by decide)]; exact a5 (Or.inr (by rw [a4]; exact cq))
        have go : ∀ (h3 : MH) (Va' : Nat → Nat → Int), MX 106 W ρ m A h0 h3 F2 V G → MX 103 W ρ a B h0 h3 Fa Va' Ga → ar_ok Fa Va' (ls_g S) (ls_t (rd_num (lm_at (3 * k + i)) i q S)) → HJ 15 165 lv [] h3 Q := fun h3 Va' M3 MA3 ao3 =>
          s_rl165 M3 e0 e1 MA3.1.2.1 e2 qk e3 rfl e4 qi (by omega) (by omega) (fun x1 q1 lv1 d0 d1 d2 d3 d4 => ih (i + 1) lv1 h3 (rd_num (lm_at (3 * k + i)) i q S) x1 (by omega) ⟨F2, Fa, Va', ⟨M3, MA3⟩, ⟨by rw [dd 1 (by decide) (by decide)]; exact b1, by rw [dd 3 (by decide) (by decide), n1]; exact a3, by rw [dd 6 (by decide) (by decide), n2]; exact b6, d7, d8⟩, by rw [n2]; exact ao3, by rw [n1]; exact t3, by rw [n1, n2]; omega⟩ (by rw [n2]; exact tg) (by rw [n2]; exact g1) eR (by omega) d0 d1 d2 d3 d4)
        refine s_rl151 M2 e0 e1 MA2.1.2.1 e2 qk e3 rfl e4 qi (fun ct => ?_) (fun x1 q1 ct _ _ => ?_)
        · have cg : ¬ ls_g S ≤ 40 := fun z => ct (tg.mpr z)
          exact go h2 Va M2 MA2 (by rw [n3, if_neg cg]; exact ao)
        · have cg : ls_g S ≤ 40 := tg.mp ct
          refine c_tell2 M2 MA2 hw (by rw [ao.1, if_pos cg]) g1 qi (by omega) q1 (fun h3 M3 MA3 => ?_)
          rw [v5] at MA3
          exact go h3 _ M3 MA3 (by rw [n3, if_pos cg]; exact ar_num ao g1 cg (by omega))
      obtain ⟨-, -, -, n4, n5⟩ := rd_numE (l := lm_at (3 * k + i)) (i := i) (q := q) (S := S)
      refine s_rl112 M1 e0 e1 MA1.1.2.1 e2 qk e3 rfl e4 qi (env_at H M1.1.2.2).2 (by omega) (by omega) (by omega) (by omega) (fun _ _ c4 _ _ c5 => ?_) (fun x8 q8 x9 q9 _ _ c4 _ _ c5 _ _ => ?_) (fun _ _ c4 => ?_)
      · rw [hk3] at c5
        have cq : rt_t q = 2 := by omega
        have v5 := a5 (Or.inr c4)
        exact num cq h1 F1 M1 MA1 (by rw [n4, if_neg (fun z => by omega)]; exact b7) (by rw [n5, if_neg (fun z => by omega)]; exact b8) (fun _ _ _ => rfl)
      · rw [hk3] at c5
        have cq : rt_t q = 2 := by omega
        have v5 := a5 (Or.inr c4)
        refine c_note2 M1 MA1 hw q8 (q9.trans a2) (fun h2 F2 M2 MA2 d7 d8 dd => num cq h2 F2 M2 MA2 ?_ ?_ dd)
        · rw [d7, n4, b7]
          by_cases ef : ls_f S = 0
          · rw [if_pos ef, if_pos ⟨by omega, ef⟩]
          · rw [if_neg ef, if_neg (fun z => ef z.2)]
        · rw [d8, n5, b7, b8]
          by_cases ef : ls_f S = 0
          · rw [if_pos ef, if_pos ⟨by omega, ef⟩]
          · rw [if_neg ef, if_neg (fun z => ef z.2)]
      · exact c_gn2 M1 MA1 hw a2 (fun x h2 F2 qx M2 MA2 d7 d8 dd => s_rl124 qx (by omega) (by omega) (nonum (by omega) x h2 F2 qx M2 MA2 d7 d8 dd))
-- a line
theorem c_line {n : Nat} {S : RLS} (H : rd_env W ρ h0) (hw : d_sub w_rd W = true) (n6 : n ≤ 600) (RS : RR W ρ m A a B h0 V G Ga n S h) (g : ∀ (x : Int32) (h' : MH), (x.toInt = 1 ↔ (rd_line (V 0) n S).1 = 2) → (0 ≤ x.toInt ∧ x.toInt ≤ 1) → RR W ρ m A a B h0 V G Ga n (rd_line (V 0) n S).2 h' → ((rd_line (V 0) n S).1 = 2 → ls_p S < ls_p (rd_line (V 0) n S).2) → Q (some (.int x)) h') : HJ 15 0 (lv_args 0 [.ref m, .ref a]) [] h Q := by
  obtain ⟨F, Fa, Va, ⟨M, MA⟩, ⟨f1, f3, f6, f7, f8⟩, ao, pn, gp⟩ := id RS
  have tb := rd_tkB (T := V 0) (n := n) (p := ls_p S) pn
  refine s_rl0 M rfl rfl MA.1.2.1 (c_tok2 H M MA hw f1 f3 pn (fun h1 F1 M1 MA1 a2 a3 a4 a5 a6 => ?_))
  have b1 : F1 1 = (n : Int) := by rw [a6 1 (by decide) (by decide) (by decide) (by decide)]; exact f1
  have b6 : F1 6 = (ls_g S : Int) := by rw [a6 6 (by decide) (by decide) (by decide) (by decide)]; exact f6
  have b7 : F1 7 = ls_f S := by rw [a6 7 (by decide) (by decide) (by decide) (by decide)]; exact f7
  have b8 : F1 8 = ls_l S := by rw [a6 8 (by decide) (by decide) (by decide) (by decide)]; exact f8
  unfold rd_line at g
  generalize hq : rd_tk (V 0) n (ls_p S) = q at g a2 a3 a4 a5 tb
  obtain ⟨⟨t1, t2, t3⟩, t4, t5, t6, t7, t8⟩ := tb
  have bad : (rt_t q ≠ 0 ∧ ¬ (rt_t q = 1 ∧ 0 ≤ rt_v q)) → ∀ (x : Int32) (h2 : MH) (F2 : Nat → Int), x.toInt = 0 → MX 106 W ρ m A h0 h2 F2 V G → MX 103 W ρ a B h0 h2 Fa Va Ga → F2 7 = 1 → F2 8 = (rt_s q : Int) → (∀ K, K ≠ 7 → K ≠ 8 → F2 K = F1 K) → Q (some (.int x)) h2 := fun cq x h2 F2 qx M2 MA2 d7 d8 dd => by
    rw [if_neg cq.1, if_neg cq.2] at g
    exact g x h2 ⟨fun z => by omega, fun z => absurd (show (1 : Nat) = 2 from z) (by decide)⟩ (by omega) ⟨F2, Fa, Va, ⟨M2, MA2⟩, ⟨by rw [dd 1 (by decide) (by decide)]; exact b1, by rw [dd 3 (by decide) (by decide)]; exact a3, by rw [dd 6 (by decide) (by decide)]; exact b6, d7, d8⟩, ao, t3, by show ls_g S ≤ rt_b q; omega⟩ (fun z => absurd (show (1 : Nat) = 2 from z) (by decide))
  -- behind a word that names a kind
  have word : rt_t q = 1 → 0 ≤ rt_v q → ∀ (lv : List (Nat × Value)) (h2 : MH) (xk xt : Int32), RR W ρ m A a B h0 V G Ga n (rd_beg q S) h2 → (xt.toInt = 0 ↔ ls_g (rd_beg q S) ≤ 40) → xk.toInt = rt_v q → m_lk lv 0 = some (.ref m) → m_lk lv 1 = some (.ref a) → m_lk lv 2 = some (.int xk) → m_lk lv 3 = some (.int xt) → HJ 15 85 lv [] h2 Q := fun c1 c2 lv h2 xk xt R2 tg qk e0 e1 e2 e3 => by
    obtain ⟨v1, v2, v3⟩ := t7 c1
    obtain ⟨n1, n2, -, -, -⟩ := rd_begE (q := q) (S := S)
    obtain ⟨k, hk⟩ : ∃ k : Nat, rt_v q = (k : Int) := ⟨(rt_v q).toNat, by omega⟩
    have t1' := t4 (by omega)
    rw [if_neg (by omega), if_pos ⟨c1, c2⟩, hk] at g
    obtain ⟨F2, Fa2, Va2, ⟨M2, MA2⟩, -⟩ := id R2
    refine s_rl85 M2 e0 e1 MA2.1.2.1 e2 rfl e3 rfl (fun x1 q1 lv2 d0 d1 d2 d3 d4 => ?_)
    have pr := rd_numsP (T := V 0) (n := n) (rd_lim (k : Int)) 0 (rd_beg q S) (by rw [n1]; exact t3)
    refine l_nums (k := k) (xt := xt) (R := rd_nums (V 0) n (rd_lim (k : Int)) 0 (rd_beg q S)) H hw (by omega) (qk.trans hk) n6 (fun hT lv3 h3 R3 e0 e1 => ?_) (fun hF x h3 qx R3 => ?_) 3 0 lv2 h2 (rd_beg q S) x1 (by omega) R2 tg (by rw [n2]; omega) rfl q1 d0 d1 d2 d3 d4
    · rw [if_pos hT] at g
      unfold rd_mark at g
      generalize hS : (rd_nums (V 0) n (rd_lim (k : Int)) 0 (rd_beg q S)).2 = S3 at g R3 pr
      obtain ⟨F3, Fa3, Va3, ⟨M3, MA3⟩, ⟨p1, p3, p6, p7, p8⟩, ao3, pn3, gp3⟩ := R3
      have tb3 := rd_tkB (T := V 0) (n := n) (p := ls_p S3) pn3
      refine s_rl171 M3 e0 e1 MA3.1.2.1 (c_tok2 H M3 MA3 hw p1 p3 pn3 (fun h4 F4 M4 MA4 r2 r3 r4 r5 r6 => ?_))
      generalize hq3 : rd_tk (V 0) n (ls_p S3) = q3 at g r2 r3 r4 r5 tb3
      obtain ⟨⟨u1, u2, u3⟩, u4, -⟩ := tb3
      have c1 : F4 1 = (n : Int) := by rw [r6 1 (by decide) (by decide) (by decide) (by decide)]; exact p1
      have c6 : F4 6 = (ls_g S3 : Int) := by rw [r6 6 (by decide) (by decide) (by decide) (by decide)]; exact p6
      have c7 : F4 7 = ls_f S3 := by rw [r6 7 (by decide) (by decide) (by decide) (by decide)]; exact p7
      have c8 : F4 8 = ls_l S3 := by rw [r6 8 (by decide) (by decide) (by decide) (by decide)]; exact p8
      refine s_rl175 M4 e0 e1 MA4.1.2.1 (fun x3 q3' _ _ c => ?_) (fun _ _ c => ?_)
      · rw [if_pos (by omega)] at g
        refine g x3 h4 ⟨fun _ => rfl, fun _ => q3'⟩ (by omega) ⟨F4, Fa3, Va3, ⟨M4, MA4⟩, ⟨c1, r3, c6, c7, c8⟩, ao3, u3, by show ls_g S3 ≤ rt_b q3; omega⟩ (fun _ => ?_)
        show ls_p S < rt_b q3
        omega
      · rw [if_neg (by omega)] at g
        exact c_gn2 M4 MA4 hw r2 (fun x h5 F5 qx M5 MA5 d7 d8 dd => s_rl187 (z := x.toInt) rfl (fun y qy _ => g y h5 ⟨fun z => by omega, fun z => absurd (show (1 : Nat) = 2 from z) (by decide)⟩ (by omega) ⟨F5, Fa3, Va3, ⟨M5, MA5⟩, ⟨by rw [dd 1 (by decide) (by decide)]; exact c1, by rw [dd 3 (by decide) (by decide)]; exact r3, by rw [dd 6 (by decide) (by decide)]; exact c6, d7, d8⟩, ao3, u3, by show ls_g S3 ≤ rt_b q3; omega⟩ (fun z => absurd (show (1 : Nat) = 2 from z) (by decide))) (fun y qy c => by omega))
    · rw [if_neg (by rw [hF]; decide)] at g
      exact g x h3 ⟨fun z => by omega, fun z => absurd (show (1 : Nat) = 2 from z) (by decide)⟩ (by omega) R3 (fun z => absurd (show (1 : Nat) = 2 from z) (by decide))
  obtain ⟨m1, m2, m3, m4, m5⟩ := rd_begE (q := q) (S := S)
  refine s_rl4 (MX.again M1 [(106, 6)]) rfl rfl MA1.1.2.1 (by omega) (by omega) (by decide +kernel) (fun _ _ c0 c1 => ?_) (fun x6 q6 x10 q10 h15 F15 f15 lv11 M15 d0 d1 d2 d3 _ _ c0 c1 _ _ c5 _ _ c6 => ?_) (fun x6 q6 x10 q10 h15 F15 f15 lv11 M15 d0 d1 d2 d3 _ _ c0 c1 _ _ c5 _ _ c6 => ?_) (fun _ _ c0 c1 _ _ c5 => ?_) (fun x22 q22 _ _ c0 => ?_)
  · exact c_gn2 M1 MA1 hw a2 (fun x h2 F2 qx M2 MA2 d7 d8 dd => s_rl33 qx (by omega) (by omega) (bad ⟨by omega, fun z => by omega⟩ x h2 F2 qx M2 MA2 d7 d8 dd))
  · have v5 := a5 (Or.inl c1)
    have cv := (t7 (by omega)).1
    have MA6 := MA1.stay (by decide) M15.1.1 M15.1.2.2 (d_subm hw (by decide +kernel)) (by decide +kernel)
    have M6 := M1.re M15 (d_subm hw (by decide +kernel))
    have g40 : ls_g S < 40 := by omega
    refine s_rl64 M6 d0 d1 MA6.1.2.1 d2 q6 d3 q10 (fun _ => c_beg2 M6 MA6 hw (by rw [ao.1, if_pos (by omega)]) g40 (q6.trans v5) (fun h7 Fa7 Va7 M7 MA7 y2 y0 y1 => word (by omega) (by omega) lv11 h7 x6 x10 ⟨F15, Fa7, Va7, ⟨M7, MA7⟩, ⟨?_, ?_, ?_, ?_, ?_⟩, ?_, ?_, ?_⟩ ⟨fun _ => by rw [m2]; omega, fun _ => q10⟩ (q6.trans v5) d0 d1 d2 d3)) (fun _ _ _ _ c => absurd rfl c)
    · rw [f15, m_uN _ _ _ _ (by decide)]; exact b1
    · rw [f15, m_uN _ _ _ _ (by decide), m1]; exact a3
    · rw [f15, m_uE, m2]; omega
    · rw [f15, m_uN _ _ _ _ (by decide), m4, if_neg (fun z => by omega)]; exact b7
    · rw [f15, m_uN _ _ _ _ (by decide), m5, if_neg (fun z => by omega)]; exact b8
    · rw [m2, m3, if_neg (by omega)]
      exact ar_beg ao g40 y2 y0 y1
    · rw [m1]; exact t3
    · have := t4 (by omega)
      rw [m1, m2]; omega
  · have v5 := a5 (Or.inl c1)
    have cv := (t7 (by omega)).1
    have MA6 := MA1.stay (by decide) M15.1.1 M15.1.2.2 (d_subm hw (by decide +kernel)) (by decide +kernel)
    have M6 := M1.re M15 (d_subm hw (by decide +kernel))
    have g40 : 40 ≤ ls_g S := by omega
    have o7 : F15 7 = ls_f S := by rw [f15, m_uN _ _ _ _ (by decide)]; exact b7
    have o8 : F15 8 = ls_l S := by rw [f15, m_uN _ _ _ _ (by decide)]; exact b8
    refine s_rl64 M6 d0 d1 MA6.1.2.1 d2 q6 d3 q10 (fun c => absurd q10 (by omega)) (fun x1 q1 x2 q2 _ _ _ => c_note2 M6 MA6 hw q1 q2 (fun h7 F7 M7 MA7 y7 y8 yo => s_rl77 M7 d0 d1 MA7.1.2.1 d2 q6 d3 q10 (word (by omega) (by omega) lv11 h7 x6 x10 ⟨F7, Fa, Va, ⟨M7, MA7⟩, ⟨?_, ?_, ?_, ?_, ?_⟩, ?_, ?_, ?_⟩ ⟨fun z => by omega, fun z => by rw [m2] at z; omega⟩ (q6.trans v5) d0 d1 d2 d3)))
    · rw [yo 1 (by decide) (by decide), f15, m_uN _ _ _ _ (by decide)]; exact b1
    · rw [yo 3 (by decide) (by decide), f15, m_uN _ _ _ _ (by decide), m1]; exact a3
    · rw [yo 6 (by decide) (by decide), f15, m_uE, m2]; omega
    · rw [y7, o7, m4]
      by_cases ef : ls_f S = 0
      · rw [if_pos ef, if_pos ⟨g40, ef⟩]
      · rw [if_neg ef, if_neg (fun z => ef z.2)]
    · rw [y8, o7, o8, m5, f15, m_uN _ _ _ _ (by decide), a2]
      by_cases ef : ls_f S = 0
      · rw [if_pos ef, if_pos ⟨g40, ef⟩]
      · rw [if_neg ef, if_neg (fun z => ef z.2)]
    · rw [m2, m3, if_pos g40]
      exact ar_up ao g40
    · rw [m1]; exact t3
    · have := t4 (by omega)
      rw [m1, m2]; omega
  · have v5 := a5 (Or.inl c1)
    exact c_gn2 M1 MA1 hw a2 (fun x h2 F2 qx M2 MA2 d7 d8 dd => s_rl33 qx (by omega) (by omega) (bad ⟨by omega, fun z => by omega⟩ x h2 F2 qx M2 MA2 d7 d8 dd))
  · rw [if_pos (by omega)] at g
    exact g x22 h1 ⟨fun z => by omega, fun z => absurd (show (0 : Nat) = 2 from z) (by decide)⟩ (by omega) ⟨F1, Fa, Va, ⟨M1, MA1⟩, ⟨b1, a3, b6, b7, b8⟩, ao, t3, by show ls_g S ≤ rt_b q; omega⟩ (fun z => absurd (show (0 : Nat) = 2 from z) (by decide))
end
