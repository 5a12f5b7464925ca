-- A HEAP IS WALKED: by hand in whole numbers
-- THE WALK'S NUMBERS
def w_S (rk P : Nat → Int) : Nat → Nat
  | 0 => 0
  | t + 1 => w_S rk P t + 2 ^ (rk (P t).toNat).toNat
theorem w_Sc {rk P P' : Nat → Int} : ∀ {t : Nat}, (∀ j, j < t → P' j = P j) → w_S rk P' t = w_S rk P t
  | 0, _ => rfl
  | t + 1, h => by
    rw [w_S, w_S, w_Sc (fun j hj => h j (by omega)), h t (by omega)]
theorem w_Sg {rk P : Nat → Int} : ∀ t : Nat, t ≤ w_S rk P t
  | 0 => Nat.le_refl _
  | t + 1 => by
    rw [w_S]
    have a := w_Sg (rk := rk) (P := P) t
    have b : 0 < 2 ^ (rk (P t).toNat).toNat := Nat.pow_pos (by decide)
    omega
def w_en (n : Int) (rk P U D : Nat → Int) (b : Int) (j : Nat) : Prop := (0 ≤ P j ∧ P j < n ∧ rk (P j).toNat ≤ 5) ∧ (U j = -1 ∨ (0 ≤ U j ∧ U j < b ∧ D (U j).toNat + 1 + rk (P j).toNat ≤ 5))
-- at the outer head; at the inner one
def w_J (n : Int) (rk P U D : Nat → Int) (W t w : Nat) : Prop := (∀ j, j < t → w_en n rk P U D w j) ∧ w_S rk P t + w = W
def w_K (n : Int) (rk P U D : Nat → Int) (W t k v w : Nat) : Prop := ((v : Int) < n ∧ rk v ≤ 5 ∧ 0 ≤ D w ∧ D w + rk v ≤ 5 ∧ (k : Int) ≤ rk v) ∧ (∀ j, j < t → w_en n rk P U D (w + 1) j) ∧ w_S rk P t + 1 + 2 ^ (rk v).toNat + w = W + 2 ^ k
section
variable {n : Int} {rk bl P U D P' U' D' : Nat → Int} {W t k v w : Nat}
theorem w_pop (sh : p_sh n rk bl) (q : w_J n rk P U D W (t + 1) w) (hv : P t = (v : Int)) (hd : ∀ j, j ≠ w → D' j = D j) (hw : (U t = -1 → D' w = 0) ∧ (U t ≠ -1 → D' w = D (U t).toNat + 1)) (hD : 0 ≤ D (U t).toNat) : w_K n rk P U D' W t 0 v w := by
  obtain ⟨q1, q2⟩ := q
  obtain ⟨⟨a1, a2, a3⟩, a4⟩ := q1 t (by omega)
  rw [hv] at a2 a3 a4
  rw [Int.toNat_natCast] at a3 a4
  have r0 := (sh v a2).1.1
  rw [w_S, hv, Int.toNat_natCast] at q2
  have hdw : 0 ≤ D' w ∧ D' w + rk v ≤ 5 := by
    by_cases e : U t = -1
    · rw [hw.1 e]
      omega
    · rw [hw.2 e]
      rcases a4 with z | z
      · exact absurd z e
      · omega
  refine ⟨⟨a2, a3, hdw.1, hdw.2, by omega⟩, fun j hj => ?_, ?_⟩
  · obtain ⟨b1, b2⟩ := q1 j (by omega)
    refine ⟨b1, ?_⟩
    rcases b2 with z | ⟨z1, z2, z3⟩
    · exact Or.inl z
    · refine Or.inr ⟨z1, by omega, ?_⟩
      rw [hd _ (by omega)]
      exact z3
  · rw [Nat.pow_zero]
    omega
theorem w_pop' (sh : p_sh n rk bl) (q : w_J n rk P U D W (t + 1) w) (hv : P t = (v : Int)) (hd : ∀ j, j ≠ w → D' j = D j) (hw : (U t = -1 ∧ D' w = 0) ∨ (U t ≠ -1 ∧ D' w = D (U t).toNat + 1 ∧ 0 ≤ D (U t).toNat)) : w_K n rk P U D' W t 0 v w := by
  rcases hw with ⟨z, d0⟩ | ⟨z, d1, d2⟩
  · obtain ⟨q1, q2⟩ := q
    obtain ⟨⟨a1, a2, a3⟩, a4⟩ := q1 t (by omega)
    rw [hv] at a2 a3 a4
    rw [Int.toNat_natCast] at a3 a4
    have r0 := (sh v a2).1.1
    rw [w_S, hv, Int.toNat_natCast] at q2
    refine ⟨⟨a2, a3, by omega, by omega, by omega⟩, fun j hj => ?_, ?_⟩
    · obtain ⟨b1, b2⟩ := q1 j (by omega)
      refine ⟨b1, ?_⟩
      rcases b2 with z | ⟨z1, z2, z3⟩
      · exact Or.inl z
      · refine Or.inr ⟨z1, by omega, ?_⟩
        rw [hd _ (by omega)]
        exact z3
    · rw [Nat.pow_zero]
      omega
  · exact w_pop sh q hv hd ⟨fun y => absurd y z, fun _ => d1⟩ d2
theorem w_push (sh : p_sh n rk bl) (q : w_K n rk P U D W t k v w) (hk : (k : Int) < rk v) (hP : P' t = bl (6 * v + k)) (hP2 : ∀ j, j < t → P' j = P j) (hU : U' t = w) (hU2 : ∀ j, j < t → U' j = U j) : w_K n rk P' U' D W (t + 1) (k + 1) v w := by
  obtain ⟨⟨a1, a2, a3, a4, a5⟩, q1, q2⟩ := q
  obtain ⟨-, sb⟩ := sh v a1
  obtain ⟨c1, c2, c3⟩ := sb k hk
  refine ⟨⟨a1, a2, a3, a4, by omega⟩, fun j hj => ?_, ?_⟩
  · by_cases e : j = t
    · subst e
      refine ⟨⟨by rw [hP]; exact c1, by rw [hP]; omega, by rw [hP, c3]; omega⟩, Or.inr ⟨by rw [hU]; omega, by rw [hU]; omega, ?_⟩⟩
      rw [hU, hP, c3, Int.toNat_natCast]
      omega
    · have hj2 : j < t := by omega
      unfold w_en
      rw [hP2 j hj2, hU2 j hj2]
      exact q1 j hj2
  · rw [w_S, w_Sc hP2, hP, c3, Int.toNat_natCast, Nat.pow_succ]
    omega
theorem w_out (q : w_K n rk P U D W t k v w) (hk : ¬ (k : Int) < rk v) : w_J n rk P U D W t (w + 1) := by
  obtain ⟨⟨a1, a2, a3, a4, a5⟩, q1, q2⟩ := q
  have e : (rk v).toNat = k := by omega
  rw [e] at q2
  exact ⟨fun j hj => q1 j hj, by omega⟩
-- the rows are long enough
theorem w_KB (q : w_K n rk P U D W t k v w) (hk : (k : Int) < rk v) (hW : W ≤ 63) : t < 62 ∧ w < 62 := by
  obtain ⟨⟨a1, a2, a3, a4, a5⟩, q1, q2⟩ := q
  have g := w_Sg (rk := rk) (P := P) t
  have e : 2 ^ (k + 1) ≤ 2 ^ (rk v).toNat := Nat.pow_le_pow_right (by decide) (by omega)
  have e2 : 0 < 2 ^ k := Nat.pow_pos (by decide)
  rw [Nat.pow_succ] at e
  omega
theorem w_KB2 (q : w_K n rk P U D W t k v w) (hW : W ≤ 63) : t ≤ 62 ∧ w ≤ 62 := by
  obtain ⟨⟨a1, a2, a3, a4, a5⟩, q1, q2⟩ := q
  have g := w_Sg (rk := rk) (P := P) t
  have e : 2 ^ k ≤ 2 ^ (rk v).toNat := Nat.pow_le_pow_right (by decide) (by omega)
  omega
theorem w_JB (q : w_J n rk P U D W (t + 1) w) (hW : W ≤ 63) : t < 63 ∧ w < 63 := by
  have g := w_Sg (rk := rk) (P := P) (t + 1)
  have := q.2
  omega
end
def w_I (F0 : Nat → Int) (V0 : Nat → Nat → Int) (F : Nat → Int) (V : Nat → Nat → Int) : Prop := (∀ K, K ≠ 26 → F K = F0 K) ∧ ∀ K, K < 27 ∨ 31 < K → V K = V0 K
theorem w_XS {n : Int} {rk At Up D At' Up' D' : Nat → Int} {w : Nat} (x : w_X n rk At Up D w) (ha : ∀ j, j ≠ w → At' j = At j) (hu : ∀ j, j ≠ w → Up' j = Up j) (hd : ∀ j, j ≠ w → D' j = D j) (h1 : 0 ≤ At' w ∧ At' w < n ∧ rk (At' w).toNat ≤ 5) (h2 : (Up' w = -1 ∧ D' w = 0) ∨ (0 ≤ Up' w ∧ Up' w < w ∧ D' w = D (Up' w).toNat + 1)) : w_X n rk At' Up' D' (w + 1) := by
  intro i hi
  by_cases e : i = w
  · subst e
    refine ⟨h1, ?_⟩
    rcases h2 with z | ⟨z1, z2, z3⟩
    · exact Or.inl z
    · exact Or.inr ⟨z1, z2, by rw [z3, hd (Up' i).toNat (by omega)]⟩
  · obtain ⟨x1, x2⟩ := x i (by omega)
    rw [ha i e, hu i e, hd i e]
    refine ⟨x1, ?_⟩
    rcases x2 with z | ⟨z1, z2, z3⟩
    · exact Or.inl z
    · exact Or.inr ⟨z1, z2, by rw [z3, hd (Up i).toNat (by omega)]⟩
-- the walk's rows against the pure walk
def wk_of (V : Nat → Nat → Int) (w : Nat) (O : WKt) : Prop := O.1 = w ∧ ∀ i, i < w → O.2.1 i = V 27 i ∧ O.2.2.1 i = V 29 i ∧ O.2.2.2 i = V 28 i
theorem wk_ofC {V V' : Nat → Nat → Int} {w : Nat} {O : WKt} (e : wk_of V w O) (a : V' 27 = V 27) (b : V' 29 = V 29) (c : V' 28 = V 28) : wk_of V' w O := by
  unfold wk_of
  rw [a, b, c]
  exact e
theorem wk_ofS {V V' : Nat → Nat → Int} {w : Nat} {O : WKt} {v u dv : Int} (e : wk_of V w O) (a : V' 27 = m_u (V 27) w v) (b : V' 29 = m_u (V 29) w u) (c : V' 28 = m_u (V 28) w dv) (u1 : u ≠ -1 → u.toNat < w) (d0 : u = -1 → dv = 0) (d1 : u ≠ -1 → dv = V 28 u.toNat + 1) : wk_of V' (w + 1) (wk_on v u O) := by
  obtain ⟨e1, e2⟩ := e
  refine ⟨by show O.1 + 1 = _; rw [e1], fun i hi => ?_⟩
  rw [a, b, c]
  show m_u O.2.1 O.1 v i = _ ∧ m_u O.2.2.1 O.1 u i = _ ∧ m_u O.2.2.2 O.1 (if u = -1 then 0 else O.2.2.2 u.toNat + 1) i = _
  rw [e1]
  by_cases q : i = w
  · rw [q, m_uE, m_uE, m_uE, m_uE, m_uE, m_uE]
    refine ⟨rfl, rfl, ?_⟩
    by_cases z : u = -1
    · rw [if_pos z, d0 z]
    · rw [if_neg z, d1 z, (e2 _ (u1 z)).2.2]
  · rw [m_uN _ _ _ _ q, m_uN _ _ _ _ q, m_uN _ _ _ _ q, m_uN _ _ _ _ q, m_uN _ _ _ _ q, m_uN _ _ _ _ q]
    exact e2 i (by omega)
theorem wk_go0 {S : PSt} {O : WKt} : ∀ f : Nat, wk_go S f [] O = O
  | 0 => rfl
  | _ + 1 => rfl
theorem wk_stC {P U P' U' : Nat → Int} : ∀ {t : Nat}, (∀ j, j < t → P' j = P j ∧ U' j = U j) → wk_st P' U' t = wk_st P U t
  | 0, _ => rfl
  | t + 1, h => by rw [wk_st, wk_st, wk_stC (fun j hj => h j (by omega)), (h t (by omega)).1, (h t (by omega)).2]
theorem wk_rsC {f h : Nat → Int} : ∀ {d r : Nat}, (∀ k, r ≤ k → k < r + d → f k = h k) → wk_rs f d r = wk_rs h d r
  | 0, _, _ => rfl
  | d + 1, r, e => by rw [wk_rs, wk_rs, e r (by omega) (by omega), wk_rsC (fun k k1 k2 => e k (by omega) (by omega))]
-- what goes on beside the run: a place in the pure walk whose end is R
def rn_of (F : Nat → Int) (V : Nat → Nat → Int) (S : PSt) : Prop := F 17 = (ps_n S : Int) ∧ ∀ v : Nat, v < ps_n S → ps_t S v = V 20 v ∧ (0 ≤ V 20 v ∧ V 20 v ≤ 127) ∧ ps_y S v = V 21 v ∧ (0 ≤ V 21 v ∧ V 21 v ≤ 99) ∧ ps_k S v = V 22 v ∧ ∀ r : Nat, (r : Int) < V 22 v → ps_b S (6 * v + r) = V 23 (6 * v + r)
theorem rn_rs {F : Nat → Int} {V : Nat → Nat → Int} {S : PSt} (I : rs_of F V S) : rn_of F V S := ⟨I.1, I.2.2.2⟩
theorem rn_ofV {F F' : Nat → Int} {V V' : Nat → Nat → Int} {S : PSt} (I : rn_of F V S) (f17 : F' 17 = F 17) (v20 : V' 20 = V 20) (v21 : V' 21 = V 21) (v22 : V' 22 = V 22) (v23 : V' 23 = V 23) : rn_of F' V' S := by
  unfold rn_of
  rw [f17, v20, v21, v22, v23]
  exact I
def wk_J (Z : PSt → List (Int × Int) → WKt → Prop) (F0 : Nat → Int) (V0 : Nat → Nat → Int) (V : Nat → Nat → Int) (t w : Nat) : Prop := ∀ S l R, Z S l R → rn_of F0 V0 S ∧ ∃ O, wk_of V w O ∧ wk_go S (64 - w) (wk_st (V 30) (V 31) t ++ l) O = R
def wk_K (Z : PSt → List (Int × Int) → WKt → Prop) (F0 : Nat → Int) (V0 : Nat → Nat → Int) (V : Nat → Nat → Int) (t k v w : Nat) : Prop := ∀ S l R, Z S l R → rn_of F0 V0 S ∧ ∃ O L, wk_of V (w + 1) O ∧ wk_st (V 30) (V 31) t = wk_ch S (v : Int) w k ++ L ∧ wk_go S (64 - (w + 1)) (wk_ch S (v : Int) w (ps_k S v).toNat ++ (L ++ l)) O = R
section
variable {lv : List (Nat × Value)} {Q : Option Value → MH → Prop} {W : List (Nat × Nat)} {ρ : Nat → Nat} {m : Nat} {A : Nat → Nat} {h0 h : MH} {F : Nat → Int} {V : Nat → Nat → Int} {G : Nat → Nat → Int64}
theorem s_wt0 {x : Int} (M : MX 49 W ρ m A h0 h F V G) (e0 : m_lk lv 0 = some (.ref m)) {lx1 : Int32} (e1 : m_lk lv 1 = some (.int lx1)) (lq1 : lx1.toInt = x) (x0 : 0 ≤ x) (x1 : x ≤ 15999)(hw : d_sub [(66, 1001), (67, 1001)] W = true)
    (g0 : ∀ x1 : Int32, x1.toInt = 1 → ∀ h4 : MH, ∀ V4 : Nat → Nat → Int, V4 = m_u V 30 (m_u (V 30) (0 : Int).toNat (x)) → ∀ h7 : MH, ∀ V7 : Nat → Nat → Int, V7 = m_u V4 31 (m_u (V4 31) (0 : Int).toNat ((-1))) → ∀ lv2 : List (Nat × Value), MX 49 W ρ m A h0 h7 F V7 G → m_lk lv2 0 = some (.ref m) → m_lk lv2 2 = some (.int x1) → HJ 220 16 lv2 [] h7 Q)
    : HJ 220 0 lv [] h Q := by
  refine hM_ic (n := 1) rfl (by decide) rfl (fun x1 q1 => ?_) -- 0
  refine hM_si (k := 2) rfl (by decide +kernel) rfl (fun lv2 e2_2 u2 => ?_) -- 1
  have e2_0 := u2 0 _ (by decide) (Or.inl rfl) e0
  have e2_1 := u2 1 _ (by decide) (Or.inl rfl) e1
  refine hI_al (k := 0) rfl e2_0 rfl ?_ -- 2
  refine hM_ga M (by decide) rfl rfl (k := 30) (c := 9) rfl rfl rfl (by decide +kernel) rfl ?_ -- 3
  refine hM_ic (n := 0) rfl (by decide) rfl (fun x3 q3 => ?_) -- 6
  refine hI_il (k := 1) rfl e2_1 rfl ?_ -- 7
  refine hM_is M (by decide) ok_49 (K := 30) (R2 := 66) (L := 64) (H := 64) (lo := 0) (hi := 15999) rfl (by decide) rfl rfl rfl (fun _ => rfl) (d_subm hw (by decide +kernel)) rfl q3 lq1 (by omega) (by omega) (by omega) (by omega) rfl (fun h4 V4 f4 M4 => ?_) -- 8
  refine hI_al (k := 0) rfl e2_0 rfl ?_ -- 9
  refine hM_ga M4 (by decide) rfl rfl (k := 31) (c := 9) rfl rfl rfl (by decide +kernel) rfl ?_ -- 10
  refine hM_ic (n := 0) rfl (by decide) rfl (fun x5 q5 => ?_) -- 13
  refine hM_ic (n := (-1)) rfl (by decide) rfl (fun x6 q6 => ?_) -- 14
  refine hM_is M4 (by decide) ok_49 (K := 31) (R2 := 67) (L := 64) (H := 64) (lo := (-1)) (hi := 62) rfl (by decide) rfl rfl rfl (fun _ => rfl) (d_subm hw (by decide +kernel)) rfl q5 q6 (by omega) (by omega) (by omega) (by omega) rfl (fun h7 V7 f7 M7 => ?_) -- 15
  exact g0 x1 q1 h4 V4 f4 h7 V7 f7 lv2 M7 e2_0 e2_2
theorem s_wt16 {t : Int} (M : MX 49 W ρ m A h0 h F V G) (e0 : m_lk lv 0 = some (.ref m)) {lx2 : Int32} (e2 : m_lk lv 2 = some (.int lx2)) (lq2 : lx2.toInt = t) (t0 : 0 ≤ t) (t1 : t ≤ 63) (w1 : 0 < t → F 26 < 63) (d0 : 0 < t → V 31 (t + (-1)).toNat ≠ -1 → V 28 (V 31 (t + (-1)).toNat).toNat ≤ 4)(hw : d_sub [(63, 1001), (65, 1001), (64, 1001)] W = true)
    (g0 : t ≤ 0 → Q none h)
    (g1 : ∀ x1 : Int32, x1.toInt = t + (-1) → ∀ x2 : Int32, x2.toInt = V 30 (t + (-1)).toNat → ∀ h5 : MH, ∀ V5 : Nat → Nat → Int, V5 = m_u V 27 (m_u (V 27) (F 26).toNat (V 30 (t + (-1)).toNat)) → ∀ h8 : MH, ∀ V8 : Nat → Nat → Int, V8 = m_u V5 29 (m_u (V5 29) (F 26).toNat (V 31 (t + (-1)).toNat)) → ∀ h18 : MH, ∀ V18 : Nat → Nat → Int, V18 = m_u V8 28 (m_u (V8 28) (F 26).toNat ((V 28 (V 31 (t + (-1)).toNat).toNat) + 1)) → ∀ x19 : Int32, x19.toInt = 0 → ∀ lv20 : List (Nat × Value), MX 49 W ρ m A h0 h18 F V18 G → m_lk lv20 0 = some (.ref m) → m_lk lv20 2 = some (.int x1) → m_lk lv20 3 = some (.int x2) → m_lk lv20 4 = some (.int x19) → t > 0 → 0 ≤ V 30 (t + (-1)).toNat → V 30 (t + (-1)).toNat ≤ 15999 → 0 ≤ F 26 → F 26 ≤ 63 → (-1) ≤ V 31 (t + (-1)).toNat → V 31 (t + (-1)).toNat ≤ 62 → V 31 (t + (-1)).toNat ≠ (-1) → 0 ≤ V 28 (V 31 (t + (-1)).toNat).toNat → V 28 (V 31 (t + (-1)).toNat).toNat ≤ 5 → HJ 220 100 lv20 [] h18 Q)
    (g2 : ∀ x1 : Int32, x1.toInt = t + (-1) → ∀ x2 : Int32, x2.toInt = V 30 (t + (-1)).toNat → ∀ h5 : MH, ∀ V5 : Nat → Nat → Int, V5 = m_u V 27 (m_u (V 27) (F 26).toNat (V 30 (t + (-1)).toNat)) → ∀ h8 : MH, ∀ V8 : Nat → Nat → Int, V8 = m_u V5 29 (m_u (V5 29) (F 26).toNat (V 31 (t + (-1)).toNat)) → ∀ h22 : MH, ∀ V22 : Nat → Nat → Int, V22 = m_u V8 28 (m_u (V8 28) (F 26).toNat (0)) → ∀ x23 : Int32, x23.toInt = 0 → ∀ lv24 : List (Nat × Value), MX 49 W ρ m A h0 h22 F V22 G → m_lk lv24 0 = some (.ref m) → m_lk lv24 2 = some (.int x1) → m_lk lv24 3 = some (.int x2) → m_lk lv24 4 = some (.int x23) → t > 0 → 0 ≤ V 30 (t + (-1)).toNat → V 30 (t + (-1)).toNat ≤ 15999 → 0 ≤ F 26 → F 26 ≤ 63 → (-1) ≤ V 31 (t + (-1)).toNat → V 31 (t + (-1)).toNat ≤ 62 → V 31 (t + (-1)).toNat = (-1) → HJ 220 100 lv24 [] h22 Q)
    : HJ 220 16 lv [] h Q := by
  refine hI_il (k := 2) rfl e2 rfl ?_ -- 16
  refine hM_zle (off := 144) (t := 161) rfl lq2 (by decide) rfl (fun c17 => ?_) (fun c17 => ?_) -- 17
  · refine hI_rv rfl rfl ?_
    exact g0 c17
  · refine hM_inc (k := 2) (z := (-1)) rfl e2 lq2 (by decide) (by omega) (by omega) (by decide +kernel) rfl (fun lv1 x1 q1 e1_2 u1 => ?_) -- 20
    have e1_0 := u1 0 _ (by decide) (Or.inl rfl) e0
    refine hI_al (k := 0) rfl e1_0 rfl ?_ -- 23
    refine hM_ga M (by decide) rfl rfl (k := 30) (c := 9) rfl rfl rfl (by decide +kernel) rfl ?_ -- 24
    refine hI_il (k := 2) rfl e1_2 rfl ?_ -- 27
    refine hM_ia M (by decide) (K := 30) (R2 := 66) (L := 64) (H := 64) (lo := 0) (hi := 15999) rfl (by decide) rfl rfl (fun _ => rfl) rfl q1 (by omega) (by omega) rfl (fun x2 q2 a2 b2 => ?_) -- 28
    refine hM_si (k := 3) rfl (by decide +kernel) rfl (fun lv3 e3_3 u3 => ?_) -- 29
    have e3_0 := u3 0 _ (by decide) (Or.inl rfl) e1_0
    have e3_2 := u3 2 _ (by decide) (Or.inl rfl) e1_2
    refine hI_al (k := 0) rfl e3_0 rfl ?_ -- 30
    refine hM_ga M (by decide) rfl rfl (k := 27) (c := 9) rfl rfl rfl (by decide +kernel) rfl ?_ -- 31
    refine hI_al (k := 0) rfl e3_0 rfl ?_ -- 34
    refine hM_gi M (by decide) rfl rfl rfl (k := 26) (c := 9) (lo := 0) (hi := 63) rfl rfl rfl rfl rfl (fun x4 q4 a4 b4 => ?_) -- 35
    refine hI_il (k := 3) rfl e3_3 rfl ?_ -- 38
    refine hM_is M (by decide) ok_49 (K := 27) (R2 := 63) (L := 64) (H := 64) (lo := 0) (hi := 15999) rfl (by decide) rfl rfl rfl (fun _ => rfl) (d_subm hw (by decide +kernel)) rfl q4 q2 (by omega) (by omega) (by omega) (by omega) rfl (fun h5 V5 f5 M5 => ?_) -- 39
    refine hI_al (k := 0) rfl e3_0 rfl ?_ -- 40
    refine hM_ga M5 (by decide) rfl rfl (k := 29) (c := 9) rfl rfl rfl (by decide +kernel) rfl ?_ -- 41
    refine hI_al (k := 0) rfl e3_0 rfl ?_ -- 44
    refine hM_gi M5 (by decide) rfl rfl rfl (k := 26) (c := 9) (lo := 0) (hi := 63) rfl rfl rfl rfl rfl (fun x6 q6 a6 b6 => ?_) -- 45
    refine hI_al (k := 0) rfl e3_0 rfl ?_ -- 48
    refine hM_ga M5 (by decide) rfl rfl (k := 31) (c := 9) rfl rfl rfl (by decide +kernel) rfl ?_ -- 49
    refine hI_il (k := 2) rfl e3_2 rfl ?_ -- 52
    refine hM_ia M5 (by decide) (K := 31) (R2 := 67) (L := 64) (H := 64) (lo := (-1)) (hi := 62) rfl (by decide) rfl rfl (fun _ => rfl) rfl q1 (by omega) (by omega) rfl (fun x7 q7 a7 b7 => ?_) -- 53
    have q7 : x7.toInt = V 31 (t + (-1)).toNat := by rw [q7, f5]; rfl
    rw [f5] at a7 b7
    change (-1) ≤ V 31 (t + (-1)).toNat at a7
    change V 31 (t + (-1)).toNat ≤ 62 at b7 -- 53
    refine hM_is M5 (by decide) ok_49 (K := 29) (R2 := 65) (L := 64) (H := 64) (lo := (-1)) (hi := 62) rfl (by decide) rfl rfl rfl (fun _ => rfl) (d_subm hw (by decide +kernel)) rfl q6 q7 (by omega) (by omega) (by omega) (by omega) rfl (fun h8 V8 f8 M8 => ?_) -- 54
    refine hI_al (k := 0) rfl e3_0 rfl ?_ -- 55
    refine hM_ga M8 (by decide) rfl rfl (k := 28) (c := 9) rfl rfl rfl (by decide +kernel) rfl ?_ -- 56
    refine hI_al (k := 0) rfl e3_0 rfl ?_ -- 59
    refine hM_gi M8 (by decide) rfl rfl rfl (k := 26) (c := 9) (lo := 0) (hi := 63) rfl rfl rfl rfl rfl (fun x9 q9 a9 b9 => ?_) -- 60
    refine hI_al (k := 0) rfl e3_0 rfl ?_ -- 63
    refine hM_ga M8 (by decide) rfl rfl (k := 29) (c := 9) rfl rfl rfl (by decide +kernel) rfl ?_ -- 64
    refine hI_al (k := 0) rfl e3_0 rfl ?_ -- 67
    refine hM_gi M8 (by decide) rfl rfl rfl (k := 26) (c := 9) (lo := 0) (hi := 63) rfl rfl rfl rfl rfl (fun x10 q10 a10 b10 => ?_) -- 68
    refine hM_ia M8 (by decide) (K := 29) (R2 := 65) (L := 64) (H := 64) (lo := (-1)) (hi := 62) rfl (by decide) rfl rfl (fun _ => rfl) rfl q10 (by omega) (by omega) rfl (fun x11 q11 a11 b11 => ?_) -- 71
    have w11 : V8 29 (F 26).toNat = V 31 (t + (-1)).toNat := by rw [f8, m_uE, m_uE]
    rw [w11] at q11 a11 b11 -- 71
    refine hM_ic (n := (-1)) rfl (by decide) rfl (fun x12 q12 => ?_) -- 72
    refine hM_cne (off := 7) (t := 80) rfl q11 q12 (by decide) rfl (fun c73 => ?_) (fun c73 => ?_) -- 73
    · refine hI_al (k := 0) rfl e3_0 rfl ?_ -- 80
      refine hM_ga M8 (by decide) rfl rfl (k := 28) (c := 9) rfl rfl rfl (by decide +kernel) rfl ?_ -- 81
      refine hI_al (k := 0) rfl e3_0 rfl ?_ -- 84
      refine hM_ga M8 (by decide) rfl rfl (k := 29) (c := 9) rfl rfl rfl (by decide +kernel) rfl ?_ -- 85
      refine hI_al (k := 0) rfl e3_0 rfl ?_ -- 88
      refine hM_gi M8 (by decide) rfl rfl rfl (k := 26) (c := 9) (lo := 0) (hi := 63) rfl rfl rfl rfl rfl (fun x13 q13 a13 b13 => ?_) -- 89
      refine hM_ia M8 (by decide) (K := 29) (R2 := 65) (L := 64) (H := 64) (lo := (-1)) (hi := 62) rfl (by decide) rfl rfl (fun _ => rfl) rfl q13 (by omega) (by omega) rfl (fun x14 q14 a14 b14 => ?_) -- 92
      have w14 : V8 29 (F 26).toNat = V 31 (t + (-1)).toNat := by rw [f8, m_uE, m_uE]
      rw [w14] at q14 a14 b14 -- 92
      refine hM_ia M8 (by decide) (K := 28) (R2 := 64) (L := 64) (H := 64) (lo := 0) (hi := 5) rfl (by decide) rfl rfl (fun _ => rfl) rfl q14 (by omega) (by omega) rfl (fun x15 q15 a15 b15 => ?_) -- 93
      have q15 : x15.toInt = V 28 (V 31 (t + (-1)).toNat).toNat := by rw [q15, f8, f5]; rfl
      rw [f8, f5] at a15 b15
      change 0 ≤ V 28 (V 31 (t + (-1)).toNat).toNat at a15
      change V 28 (V 31 (t + (-1)).toNat).toNat ≤ 5 at b15 -- 93
      refine hM_ic (n := 1) rfl (by decide) rfl (fun x16 q16 => ?_) -- 94
      refine hM_add rfl q15 q16 (by omega) (by omega) rfl (fun x17 q17 => ?_) -- 95
      refine hM_is M8 (by decide) ok_49 (K := 28) (R2 := 64) (L := 64) (H := 64) (lo := 0) (hi := 5) rfl (by decide) rfl rfl rfl (fun _ => rfl) (d_subm hw (by decide +kernel)) rfl q9 q17 (by omega) (by omega) (by omega) (by omega) rfl (fun h18 V18 f18 M18 => ?_) -- 96
      refine hM_ic (n := 0) rfl (by decide) rfl (fun x19 q19 => ?_) -- 97
      refine hM_si2 (k := 4) rfl (by decide +kernel) rfl (fun lv20 e20_4 u20 => ?_) -- 98
      have e20_0 := u20 0 _ (by decide) (Or.inl rfl) e3_0
      have e20_2 := u20 2 _ (by decide) (Or.inl rfl) e3_2
      have e20_3 := u20 3 _ (by decide) (Or.inl rfl) e3_3
      exact g1 x1 q1 x2 q2 h5 V5 f5 h8 V8 f8 h18 V18 f18 x19 q19 lv20 M18 e20_0 e20_2 e20_3 e20_4 c17 a2 b2 a4 b4 a7 b7 c73 a15 b15
    · refine hM_ic (n := 0) rfl (by decide) rfl (fun x21 q21 => ?_) -- 76
      refine hI_go (pc' := 96) (off := 19) rfl (by decide) ?_ -- 77
      refine hM_is M8 (by decide) ok_49 (K := 28) (R2 := 64) (L := 64) (H := 64) (lo := 0) (hi := 5) rfl (by decide) rfl rfl rfl (fun _ => rfl) (d_subm hw (by decide +kernel)) rfl q9 q21 (by omega) (by omega) (by omega) (by omega) rfl (fun h22 V22 f22 M22 => ?_) -- 96
      refine hM_ic (n := 0) rfl (by decide) rfl (fun x23 q23 => ?_) -- 97
      refine hM_si2 (k := 4) rfl (by decide +kernel) rfl (fun lv24 e24_4 u24 => ?_) -- 98
      have e24_0 := u24 0 _ (by decide) (Or.inl rfl) e3_0
      have e24_2 := u24 2 _ (by decide) (Or.inl rfl) e3_2
      have e24_3 := u24 3 _ (by decide) (Or.inl rfl) e3_3
      exact g2 x1 q1 x2 q2 h5 V5 f5 h8 V8 f8 h22 V22 f22 x23 q23 lv24 M22 e24_0 e24_2 e24_3 e24_4 c17 a2 b2 a4 b4 a7 b7 c73
theorem s_wt100 {t v k : Int} (M : MX 49 W ρ m A h0 h F V G) (e0 : m_lk lv 0 = some (.ref m)) {lx2 : Int32} (e2 : m_lk lv 2 = some (.int lx2)) (lq2 : lx2.toInt = t) {lx3 : Int32} (e3 : m_lk lv 3 = some (.int lx3)) (lq3 : lx3.toInt = v) {lx4 : Int32} (e4 : m_lk lv 4 = some (.int lx4)) (lq4 : lx4.toInt = k) (t0 : 0 ≤ t) (t1 : t ≤ 63) (v0 : 0 ≤ v) (v1 : v < 16000) (k0 : 0 ≤ k) (r5 : V 22 v.toNat ≤ 5) (b0 : k < V 22 v.toNat → t ≤ 62 ∧ F 26 ≤ 62 ∧ 0 ≤ V 23 (6 * v + k).toNat ∧ V 23 (6 * v + k).toNat ≤ 15999)(hw : d_sub [(66, 1001), (67, 1001)] W = true)
    (g0 : k ≥ V 22 (v).toNat → HJ 220 148 lv [] h Q)
    (g1 : ∀ h6 : MH, ∀ V6 : Nat → Nat → Int, V6 = m_u V 30 (m_u (V 30) (t).toNat (V 23 ((6 * v) + k).toNat)) → ∀ h8 : MH, ∀ V8 : Nat → Nat → Int, V8 = m_u V6 31 (m_u (V6 31) (t).toNat (F 26)) → ∀ x9 : Int32, x9.toInt = t + 1 → ∀ x10 : Int32, x10.toInt = k + 1 → ∀ lv10 : List (Nat × Value), MX 49 W ρ m A h0 h8 F V8 G → m_lk lv10 0 = some (.ref m) → m_lk lv10 2 = some (.int x9) → m_lk lv10 3 = some (.int lx3) → m_lk lv10 4 = some (.int x10) → k < V 22 (v).toNat → 0 ≤ F 26 → F 26 ≤ 63 → HJ 220 100 lv10 [] h8 Q)
    : HJ 220 100 lv [] h Q := by
  refine hI_il2 (k := 4) rfl e4 rfl ?_ -- 100
  refine hI_al (k := 0) rfl e0 rfl ?_ -- 102
  refine hM_ga M (by decide) rfl rfl (k := 22) (c := 9) rfl rfl rfl (by decide +kernel) rfl ?_ -- 103
  refine hI_il (k := 3) rfl e3 rfl ?_ -- 106
  refine hM_ba M (by decide) (K := 22) (R2 := 59) (L := 16000) (H := 16000) (lo := (-2147483648)) (hi := 2147483647) rfl (by decide) rfl rfl (Or.inl rfl) (fun _ => rfl) rfl lq3 (by omega) (by omega) rfl (fun x1 q1 a1 b1 => ?_) -- 107
  refine hM_cge (off := 40) (t := 148) rfl lq4 q1 (by decide) rfl (fun c108 => ?_) (fun c108 => ?_) -- 108
  · exact g0 c108
  · refine hI_al (k := 0) rfl e0 rfl ?_ -- 111
    refine hM_ga M (by decide) rfl rfl (k := 30) (c := 9) rfl rfl rfl (by decide +kernel) rfl ?_ -- 112
    refine hI_il (k := 2) rfl e2 rfl ?_ -- 115
    refine hI_al (k := 0) rfl e0 rfl ?_ -- 116
    refine hM_ga M (by decide) rfl rfl (k := 23) (c := 9) rfl rfl rfl (by decide +kernel) rfl ?_ -- 117
    refine hM_bp (n := 6) rfl (by decide) rfl (fun x2 q2 => ?_) -- 120
    refine hI_il (k := 3) rfl e3 rfl ?_ -- 122
    refine hM_mul rfl q2 lq3 (by omega) (by omega) rfl (fun x3 q3 => ?_) -- 123
    refine hI_il2 (k := 4) rfl e4 rfl ?_ -- 124
    refine hM_add rfl q3 lq4 (by omega) (by omega) rfl (fun x4 q4 => ?_) -- 126
    refine hM_ia M (by decide) (K := 23) (R2 := 60) (L := 96000) (H := 96000) (lo := (-2147483648)) (hi := 2147483647) rfl (by decide) rfl rfl (fun _ => rfl) rfl q4 (by omega) (by omega) rfl (fun x5 q5 a5 b5 => ?_) -- 127
    refine hM_is M (by decide) ok_49 (K := 30) (R2 := 66) (L := 64) (H := 64) (lo := 0) (hi := 15999) rfl (by decide) rfl rfl rfl (fun _ => rfl) (d_subm hw (by decide +kernel)) rfl lq2 q5 (by omega) (by omega) (by omega) (by omega) rfl (fun h6 V6 f6 M6 => ?_) -- 128
    refine hI_al (k := 0) rfl e0 rfl ?_ -- 129
    refine hM_ga M6 (by decide) rfl rfl (k := 31) (c := 9) rfl rfl rfl (by decide +kernel) rfl ?_ -- 130
    refine hI_il (k := 2) rfl e2 rfl ?_ -- 133
    refine hI_al (k := 0) rfl e0 rfl ?_ -- 134
    refine hM_gi M6 (by decide) rfl rfl rfl (k := 26) (c := 9) (lo := 0) (hi := 63) rfl rfl rfl rfl rfl (fun x7 q7 a7 b7 => ?_) -- 135
    refine hM_is M6 (by decide) ok_49 (K := 31) (R2 := 67) (L := 64) (H := 64) (lo := (-1)) (hi := 62) rfl (by decide) rfl rfl rfl (fun _ => rfl) (d_subm hw (by decide +kernel)) rfl lq2 q7 (by omega) (by omega) (by omega) (by omega) rfl (fun h8 V8 f8 M8 => ?_) -- 138
    refine hM_inc (k := 2) (z := 1) rfl e2 lq2 (by decide) (by omega) (by omega) (by decide +kernel) rfl (fun lv9 x9 q9 e9_2 u9 => ?_) -- 139
    have e9_0 := u9 0 _ (by decide) (Or.inl rfl) e0
    have e9_3 := u9 3 _ (by decide) (Or.inl rfl) e3
    have e9_4 := u9 4 _ (by decide) (Or.inl rfl) e4
    refine hM_inc (k := 4) (z := 1) rfl e9_4 lq4 (by decide) (by omega) (by omega) (by decide +kernel) rfl (fun lv10 x10 q10 e10_4 u10 => ?_) -- 142
    have e10_0 := u10 0 _ (by decide) (Or.inl rfl) e9_0
    have e10_3 := u10 3 _ (by decide) (Or.inl rfl) e9_3
    have e10_2 := u10 2 _ (by decide) (Or.inl rfl) e9_2
    refine hI_go (pc' := 100) (off := (-45)) rfl (by decide) ?_ -- 145
    exact g1 h6 V6 f6 h8 V8 f8 x9 q9 x10 q10 lv10 M8 e10_0 e10_2 e10_3 e10_4 c108 a7 b7
theorem s_wt148 {t : Int} (M : MX 49 W ρ m A h0 h F V G) (e0 : m_lk lv 0 = some (.ref m)) {lx2 : Int32} (e2 : m_lk lv 2 = some (.int lx2)) (lq2 : lx2.toInt = t) (w1 : F 26 < 63)(hw : d_sub [(49, 26)] W = true)
    (g0 : ∀ h4 : MH, ∀ F4 : Nat → Int, F4 = m_u F 26 ((F 26) + 1) → MX 49 W ρ m A h0 h4 F4 V G → 0 ≤ F 26 → F 26 ≤ 63 → HJ 220 16 lv [] h4 Q)
    : HJ 220 148 lv [] h Q := by
  refine hI_al (k := 0) rfl e0 rfl ?_ -- 148
  refine hI_dup rfl rfl rfl ?_ -- 149
  refine hM_gi M (by decide) rfl rfl rfl (k := 26) (c := 9) (lo := 0) (hi := 63) rfl rfl rfl rfl rfl (fun x1 q1 a1 b1 => ?_) -- 150
  refine hM_ic (n := 1) rfl (by decide) rfl (fun x2 q2 => ?_) -- 153
  refine hM_add rfl q1 q2 (by omega) (by omega) rfl (fun x3 q3 => ?_) -- 154
  refine hM_pi M (by decide) ok_49 rfl rfl (k := 26) (c := 9) (lo := 0) (hi := 63) rfl rfl ⟨by decide, by decide +kernel, rfl⟩ rfl (d_subm hw (by decide +kernel)) q3 (by omega) (by omega) rfl (fun h4 F4 f4 M4 => ?_) -- 155
  refine hI_go (pc' := 16) (off := (-142)) rfl (by decide) ?_ -- 158
  exact g0 h4 F4 f4 M4 a1 b1
def g_wk : List (Nat × Nat) := [(66, 1001), (67, 1001), (63, 1001), (65, 1001), (64, 1001), (49, 26)]
theorem l_wt100 {Z : PSt → List (Int × Int) → WKt → Prop} {F0 : Nat → Int} {V0 : Nat → Nat → Int} {W9 v w : Nat} (hw : d_sub g_wk W = true) (sh : p_sh (F0 17) (V0 22) (V0 23)) (n1 : F0 17 ≤ 16000) (hW : W9 ≤ 63) (cont : ∀ (lv : List (Nat × Value)) (h : MH) (V : Nat → Nat → Int) (t : Nat) (xt : Int32), MX 49 W ρ m A h0 h F V G → w_I F0 V0 F V → w_J (F0 17) (V0 22) (V 30) (V 31) (V 28) W9 t (w + 1) → w_X (F0 17) (V0 22) (V 27) (V 29) (V 28) (w + 1) → wk_J Z F0 V0 V t (w + 1) → xt.toInt = (t : Int) → m_lk lv 0 = some (.ref m) → m_lk lv 2 = some (.int xt) → HJ 220 148 lv [] h Q) (fw : F 26 = (w : Int)) : ∀ (d k t : Nat) (lv : List (Nat × Value)) (h : MH) (V : Nat → Nat → Int) (xt xv xk : Int32), V0 22 v ≤ (k : Int) + d → MX 49 W ρ m A h0 h F V G → w_I F0 V0 F V → w_K (F0 17) (V0 22) (V 30) (V 31) (V 28) W9 t k v w → w_X (F0 17) (V0 22) (V 27) (V 29) (V 28) (w + 1) → wk_K Z F0 V0 V t k v w → xt.toInt = (t : Int) → xv.toInt = (v : Int) → xk.toInt = (k : Int) → m_lk lv 0 = some (.ref m) → m_lk lv 2 = some (.int xt) → m_lk lv 3 = some (.int xv) → m_lk lv 4 = some (.int xk) → HJ 220 100 lv [] h Q := by
  have hw1 : d_sub [(66, 1001), (67, 1001)] W = true := d_subm hw (by decide +kernel)
  have endK : ∀ (V : Nat → Nat → Int) (k t : Nat), (v : Int) < F0 17 → (k : Int) = V0 22 v → wk_K Z F0 V0 V t k v w → wk_J Z F0 V0 V t (w + 1) := fun V k t v1 ek K S l R z => by
    obtain ⟨a, O, L, o, s, e⟩ := K S l R z
    refine ⟨a, O, o, ?_⟩
    rw [s, List.append_assoc]
    have : (ps_k S v).toNat = k := by
      rw [(a.2 v (by have := a.1; omega)).2.2.2.2.1]
      omega
    rw [this] at e
    exact e
  intro d
  induction d with
  | zero =>
    intro k t lv h V xt xv xk hd M I q X KJ ht hv hk e0 e2 e3 e4
    have kb := w_KB2 q hW
    have a1 := q.1.1
    have a2 := q.1.2.1
    have r22 : V 22 v = V0 22 v := by rw [I.2 22 (by decide)]
    exact s_wt100 M e0 e2 ht e3 hv e4 hk (by omega) (by omega) (by omega) (by omega) (by omega) (by rw [Int.toNat_natCast, r22]; exact a2) (fun z => by rw [Int.toNat_natCast, r22] at z; omega) hw1 (fun c => cont lv h V t xt M I (w_out q (by omega)) X (endK V k t a1 (by have := q.1.2.2.2.2; omega) KJ) ht e0 e2) (fun h6 V6 f6 h8 V8 f8 x9 q9 x10 q10 lv10 M8 e10_0 e10_2 e10_3 e10_4 c108 a7 b7 => by rw [Int.toNat_natCast, r22] at c108; omega)
  | succ d ih =>
    intro k t lv h V xt xv xk hd M I q X KJ ht hv hk e0 e2 e3 e4
    have kb := w_KB2 q hW
    have a1 := q.1.1
    have a2 := q.1.2.1
    have r22 : V 22 v = V0 22 v := by rw [I.2 22 (by decide)]
    have r23 : V 23 = V0 23 := I.2 23 (by decide)
    have s1 := sh v a1
    have eN : (6 * (v : Int) + (k : Int)).toNat = 6 * v + k := by omega
    refine s_wt100 M e0 e2 ht e3 hv e4 hk (by omega) (by omega) (by omega) (by omega) (by omega) (by rw [Int.toNat_natCast, r22]; exact a2) (fun z => ?_) hw1 (fun c => cont lv h V t xt M I (w_out q (by rw [Int.toNat_natCast, r22] at c; omega)) X (endK V k t a1 (by rw [Int.toNat_natCast, r22] at c; have := q.1.2.2.2.2; omega) KJ) ht e0 e2) (fun h6 V6 f6 h8 V8 f8 x9 q9 x10 q10 lv10 M8 e10_0 e10_2 e10_3 e10_4 c108 a7 b7 => ?_)
    · rw [Int.toNat_natCast, r22] at z
      obtain ⟨c1, c2, c3⟩ := s1.2 k z
      rw [eN, r23]
      omega
    · rw [Int.toNat_natCast, r22] at c108
      rw [eN, r23, Int.toNat_natCast] at f6
      rw [Int.toNat_natCast, fw] at f8
      have v30 : V8 30 = m_u (V 30) t (V0 23 (6 * v + k)) := by rw [f8, m_uN _ _ _ _ (by decide), f6, m_uE]
      have v31 : V8 31 = m_u (V 31) t (w : Int) := by rw [f8, m_uE, f6, m_uN _ _ _ _ (by decide)]
      have vo : ∀ K, K ≠ 30 → K ≠ 31 → V8 K = V K := fun K k1 k2 => by rw [f8, m_uN _ _ _ _ k2, f6, m_uN _ _ _ _ k1]
      refine ih (k + 1) (t + 1) lv10 h8 V8 x9 xv x10 (by omega) M8 ⟨I.1, fun K hK => by rw [vo K (by omega) (by omega), I.2 K hK]⟩ ?_ ?_ ?_ (by omega) hv (by omega) e10_0 e10_2 e10_3 e10_4
      · rw [vo 28 (by decide) (by decide), v30, v31]
        exact w_push sh q c108 (m_uE _ _ _) (fun j hj => m_uN _ _ _ _ (by omega)) (m_uE _ _ _) (fun j hj => m_uN _ _ _ _ (by omega))
      · rw [vo 27 (by decide) (by decide), vo 28 (by decide) (by decide), vo 29 (by decide) (by decide)]
        exact X
      · intro S l R z
        obtain ⟨a, O, L, o, s, e⟩ := KJ S l R z
        refine ⟨a, O, L, wk_ofC o (vo 27 (by decide) (by decide)) (vo 29 (by decide) (by decide)) (vo 28 (by decide) (by decide)), ?_, e⟩
        rw [wk_st, wk_ch, List.cons_append, wk_stC (P := V 30) (U := V 31) (fun j hj => ⟨by rw [v30, m_uN _ _ _ _ (by omega)], by rw [v31, m_uN _ _ _ _ (by omega)]⟩), s, v30, v31, m_uE, m_uE, Int.toNat_natCast, (a.2 v (by have := a.1; omega)).2.2.2.2.2 k c108]
theorem l_wt16 {Z : PSt → List (Int × Int) → WKt → Prop} {F0 : Nat → Int} {V0 : Nat → Nat → Int} {W9 : Nat} (hw : d_sub g_wk W = true) (sh : p_sh (F0 17) (V0 22) (V0 23)) (n1 : F0 17 ≤ 16000) (hW : W9 ≤ 63) (fin : ∀ (h : MH) (F : Nat → Int) (V : Nat → Nat → Int), MX 49 W ρ m A h0 h F V G → w_I F0 V0 F V → F 26 = (W9 : Int) → w_X (F0 17) (V0 22) (V 27) (V 29) (V 28) W9 → wk_J Z F0 V0 V 0 W9 → Q none h) : ∀ (d w t : Nat) (lv : List (Nat × Value)) (h : MH) (F : Nat → Int) (V : Nat → Nat → Int) (xt : Int32), W9 = w + d → F 26 = (w : Int) → MX 49 W ρ m A h0 h F V G → w_I F0 V0 F V → w_J (F0 17) (V0 22) (V 30) (V 31) (V 28) W9 t w → w_X (F0 17) (V0 22) (V 27) (V 29) (V 28) w → wk_J Z F0 V0 V t w → xt.toInt = (t : Int) → m_lk lv 0 = some (.ref m) → m_lk lv 2 = some (.int xt) → HJ 220 16 lv [] h Q := by
  have hw1 : d_sub [(63, 1001), (65, 1001), (64, 1001)] W = true := d_subm hw (by decide +kernel)
  have hw2 : d_sub [(49, 26)] W = true := d_subm hw (by decide +kernel)
  intro d
  induction d with
  | zero =>
    intro w t lv h F V xt hd fw M I q X KJ ht e0 e2
    have q2 := q.2
    have g := w_Sg (rk := V0 22) (P := V 30) t
    have t0 : t = 0 := by omega
    subst t0
    have ww : w = W9 := by omega
    subst ww
    exact s_wt16 M e0 e2 ht (by omega) (by omega) (fun z => by omega) (fun z => by omega) hw1 (fun c => fin h F V M I fw X KJ) (fun x1 q1 x2 q2 h5 V5 f5 h8 V8 f8 h18 V18 f18 x19 q19 lv20 M18 e20_0 e20_2 e20_3 e20_4 c17 a2 b2 a4 b4 a7 b7 c73 a15 b15 => by omega) (fun x1 q1 x2 q2 h5 V5 f5 h8 V8 f8 h22 V22 f22 x23 q23 lv24 M22 e24_0 e24_2 e24_3 e24_4 c17 a2 b2 a4 b4 a7 b7 c73 => by omega)
  | succ d ih =>
    intro w t lv h F V xt hd fw M I q X KJ ht e0 e2
    cases t with
    | zero =>
      have q2 := q.2
      rw [w_S] at q2
      omega
    | succ t =>
      obtain ⟨b1, b2⟩ := w_JB q hW
      obtain ⟨⟨p1, p2, p3⟩, p4⟩ := q.1 t (by omega)
      have s1 := (sh (V 30 t).toNat (by omega)).1
      have eN : (((t + 1 : Nat) : Int) + (-1)).toNat = t := by omega
      have wN : (F 26).toNat = w := by omega
      have dU : V 31 t ≠ -1 → 0 ≤ V 28 (V 31 t).toNat := fun z => by
        rcases p4 with y | y
        · exact absurd y z
        · exact (M.vi (by decide) (K := 28) (R2 := 64) rfl (by decide) rfl rfl (lo := 0) (hi := 5) (V 31 t).toNat rfl (by omega)).1
      have dU0 : 0 ≤ V 28 (V 31 t).toNat ∨ V 31 t = -1 := by
        by_cases z : V 31 t = -1
        · exact Or.inr z
        · exact Or.inl (dU z)
      -- the inner loop, from its beginning
      have inn : ∀ (dv : Int) (V8 : Nat → Nat → Int) (h8 : MH) (lv8 : List (Nat × Value)) (x1 x2 x3 : Int32), (V 31 t = -1 → dv = 0) → (V 31 t ≠ -1 → dv = V 28 (V 31 t).toNat + 1) → V8 27 = m_u (V 27) w (V 30 t) → V8 29 = m_u (V 29) w (V 31 t) → V8 28 = m_u (V 28) w dv → (∀ K, K ≠ 27 → K ≠ 28 → K ≠ 29 → V8 K = V K) → MX 49 W ρ m A h0 h8 F V8 G → x1.toInt = (t : Int) → x2.toInt = V 30 t → x3.toInt = 0 → m_lk lv8 0 = some (.ref m) → m_lk lv8 2 = some (.int x1) → m_lk lv8 3 = some (.int x2) → m_lk lv8 4 = some (.int x3) → HJ 220 100 lv8 [] h8 Q := fun dv V8 h8 lv8 x1 x2 x3 d1 d2 v27 v29 v28 vo M8 q1 q2 q3 a0 a2 a3 a4 => by
        refine l_wt100 (w := w) (v := (V 30 t).toNat) (F := F) hw sh n1 hW (Z := Z) (fun lv9 h9 V9 t9 x9 M9 I9 q9 X9 J9 y9 c0 c2 => ?_) fw 6 0 t lv8 h8 V8 x1 x2 x3 (by omega) M8 ⟨I.1, fun K hK => by rw [vo K (by omega) (by omega) (by omega), I.2 K hK]⟩ ?_ ?_ ?_ q1 (by omega) q3 a0 a2 a3 a4
        · refine s_wt148 M9 c0 c2 y9 (by omega) hw2 (fun h4 F4 f4 M4 a1 b1 => ?_)
          exact ih (w + 1) t9 lv9 h4 F4 V9 x9 (by omega) (by rw [f4, m_uE]; omega) M4 ⟨fun K hK => by rw [f4, m_uN _ _ _ _ hK, I9.1 K hK], I9.2⟩ q9 X9 J9 y9 c0 c2
        · rw [vo 30 (by decide) (by decide) (by decide), vo 31 (by decide) (by decide) (by decide), v28]
          by_cases z : V 31 t = -1
          · refine w_pop' sh q (by omega) (fun j hj => m_uN _ _ _ _ hj) (Or.inl ⟨z, by rw [m_uE]; exact d1 z⟩)
          · refine w_pop' sh q (by omega) (fun j hj => m_uN _ _ _ _ hj) (Or.inr ⟨z, by rw [m_uE]; exact d2 z, dU z⟩)
        · rw [v27, v28, v29]
          refine w_XS X (fun j hj => m_uN _ _ _ _ hj) (fun j hj => m_uN _ _ _ _ hj) (fun j hj => m_uN _ _ _ _ hj) (by rw [m_uE]; exact ⟨p1, p2, p3⟩) ?_
          rw [m_uE, m_uE]
          rcases p4 with y | ⟨y1, y2, y3⟩
          · exact Or.inl ⟨y, d1 y⟩
          · exact Or.inr ⟨y1, y2, d2 (by omega)⟩
        · intro S l R z
          obtain ⟨a, O, o, e⟩ := KJ S l R z
          have ev : (((V 30 t).toNat : Nat) : Int) = V 30 t := by omega
          refine ⟨a, wk_on (V 30 t) (V 31 t) O, wk_st (V 30) (V 31) t, wk_ofS o v27 v29 v28 (fun y => ?_) d1 d2, ?_, ?_⟩
          · rcases p4 with y2 | y2
            · exact absurd y2 y
            · omega
          · rw [wk_ch, List.nil_append, vo 30 (by decide) (by decide) (by decide), vo 31 (by decide) (by decide) (by decide)]
          · rw [wk_st, List.cons_append, show 64 - w = (64 - (w + 1)) + 1 by omega, wk_go, o.1] at e
            rw [ev]
            exact e
      refine s_wt16 M e0 e2 ht (by omega) (by omega) (fun z => by omega) (fun _ z => ?_) hw1 (fun c => by omega) (fun x1 q1 x2 q2 h5 V5 f5 h8 V8 f8 h18 V18 f18 x19 q19 lv20 M18 e20_0 e20_2 e20_3 e20_4 c17 a2 b2 a4 b4 a7 b7 c73 a15 b15 => ?_) (fun x1 q1 x2 q2 h5 V5 f5 h8 V8 f8 h22 V22 f22 x23 q23 lv24 M22 e24_0 e24_2 e24_3 e24_4 c17 a2 b2 a4 b4 a7 b7 c73 => ?_)
      · rw [eN] at z ⊢
        rcases p4 with y | ⟨y1, y2, y3⟩
        · exact absurd y z
        · omega
      · rw [eN] at q2 f5 f8 f18 c73
        rw [wN] at f5 f8 f18
        exact inn _ V18 h18 lv20 x1 x2 x19 (fun z => absurd z c73) (fun _ => rfl) (by rw [f18, m_uN _ _ _ _ (by decide), f8, m_uN _ _ _ _ (by decide), f5, m_uE]) (by rw [f18, m_uN _ _ _ _ (by decide), f8, m_uE, f5, m_uN _ _ _ _ (by decide)]) (by rw [f18, m_uE, f8, m_uN _ _ _ _ (by decide), f5, m_uN _ _ _ _ (by decide)]) (fun K k1 k2 k3 => by rw [f18, m_uN _ _ _ _ k2, f8, m_uN _ _ _ _ k3, f5, m_uN _ _ _ _ k1]) M18 (by omega) q2 q19 e20_0 e20_2 e20_3 e20_4
      · rw [eN] at q2 f5 f8 c73
        rw [wN] at f5 f8 f22
        exact inn _ V22 h22 lv24 x1 x2 x23 (fun _ => rfl) (fun z => absurd c73 z) (by rw [f22, m_uN _ _ _ _ (by decide), f8, m_uN _ _ _ _ (by decide), f5, m_uE]) (by rw [f22, m_uN _ _ _ _ (by decide), f8, m_uE, f5, m_uN _ _ _ _ (by decide)]) (by rw [f22, m_uE, f8, m_uN _ _ _ _ (by decide), f5, m_uN _ _ _ _ (by decide)]) (fun K k1 k2 k3 => by rw [f22, m_uN _ _ _ _ k2, f8, m_uN _ _ _ _ k3, f5, m_uN _ _ _ _ k1]) M22 (by omega) q2 q23 e24_0 e24_2 e24_3 e24_4
-- one tree
theorem c_walkTree {x : Int} {r w : Nat} {xx : Int32} (M : MX 49 W ρ m A h0 h F V G) (hw : d_sub g_wk W = true) (sh : p_sh (F 17) (V 22) (V 23)) (n1 : F 17 ≤ 16000) (hx : xx.toInt = x) (x0 : 0 ≤ x) (x1 : x < F 17) (rx : V 22 x.toNat = r) (r5 : r ≤ 5) (fw : F 26 = (w : Int)) (w63 : w + 2 ^ r ≤ 63) (X : w_X (F 17) (V 22) (V 27) (V 29) (V 28) w) (g : ∀ (h' : MH) (F' : Nat → Int) (V' : Nat → Nat → Int), MX 49 W ρ m A h0 h' F' V' G → w_I F V F' V' → F' 26 = ((w + 2 ^ r : Nat) : Int) → w_X (F 17) (V 22) (V' 27) (V' 29) (V' 28) (w + 2 ^ r) → (∀ S l R, rn_of F V S → (∃ O, wk_of V w O ∧ wk_go S (64 - w) ((x, -1) :: l) O = R) → ∃ O, wk_of V' (w + 2 ^ r) O ∧ wk_go S (64 - (w + 2 ^ r)) l O = R) → Q none h') : HJ 220 0 (lv_args 0 [.ref m, .int xx]) [] h Q := by
  have hw1 : d_sub [(66, 1001), (67, 1001)] W = true := d_subm hw (by decide +kernel)
  refine s_wt0 M rfl rfl hx x0 (by omega) hw1 (fun x1 q1 h4 V4 f4 h7 V7 f7 lv2 M7 e2_0 e2_2 => ?_)
  have v30 : V7 30 = m_u (V 30) 0 x := by rw [f7, m_uN _ _ _ _ (by decide), f4, m_uE]; rfl
  have v31 : V7 31 = m_u (V 31) 0 (-1) := by rw [f7, m_uE, f4, m_uN _ _ _ _ (by decide)]; rfl
  have vo : ∀ K, K ≠ 30 → K ≠ 31 → V7 K = V K := fun K k1 k2 => by rw [f7, m_uN _ _ _ _ k2, f4, m_uN _ _ _ _ k1]
  refine l_wt16 (Z := fun S l R => rn_of F V S ∧ ∃ O, wk_of V w O ∧ wk_go S (64 - w) ((x, -1) :: l) O = R) (F0 := F) (V0 := V) hw sh n1 w63 (fun h' F' V' M' I' f' X' J' => g h' F' V' M' I' f' X' (fun S l R a z => by
    obtain ⟨-, O, o, e⟩ := J' S l R ⟨a, z⟩
    exact ⟨O, o, e⟩)) (2 ^ r) w 1 lv2 h7 F V7 x1 rfl fw M7 ⟨fun _ _ => rfl, fun K hK => vo K (by omega) (by omega)⟩ ⟨fun j hj => ?_, ?_⟩ ?_ (fun S l R z => ?_) q1 e2_0 e2_2
  · have j0 : j = 0 := by omega
    subst j0
    unfold w_en
    rw [v30, v31, m_uE, m_uE]
    exact ⟨⟨x0, by omega, by omega⟩, Or.inl rfl⟩
  · rw [v30, w_S, w_S, m_uE, rx, Int.toNat_natCast]
    omega
  · rw [vo 27 (by decide) (by decide), vo 28 (by decide) (by decide), vo 29 (by decide) (by decide)]
    exact X
  · obtain ⟨a, O, o, e⟩ := z
    refine ⟨a, O, wk_ofC o (vo 27 (by decide) (by decide)) (vo 29 (by decide) (by decide)) (vo 28 (by decide) (by decide)), ?_⟩
    rw [wk_st, wk_st, v30, v31, m_uE, m_uE]
    exact e
theorem s_wa0 (M : MX 49 W ρ m A h0 h F V G) (e0 : m_lk lv 0 = some (.ref m)) (hw : d_sub [(49, 26)] W = true)
    (g0 : ∀ h2 : MH, ∀ F2 : Nat → Int, F2 = m_u F 26 (0) → ∀ x3 : Int32, x3.toInt = 0 → ∀ lv4 : List (Nat × Value), MX 49 W ρ m A h0 h2 F2 V G → m_lk lv4 0 = some (.ref m) → m_lk lv4 1 = some (.int x3) → HJ 219 7 lv4 [] h2 Q)
    : HJ 219 0 lv [] h Q := by
  refine hI_al (k := 0) rfl e0 rfl ?_ -- 0
  refine hM_ic (n := 0) rfl (by decide) rfl (fun x1 q1 => ?_) -- 1
  refine hM_pi M (by decide) ok_49 rfl rfl (k := 26) (c := 9) (lo := 0) (hi := 63) rfl rfl ⟨by decide, by decide +kernel, rfl⟩ rfl (d_subm hw (by decide +kernel)) q1 (by omega) (by omega) rfl (fun h2 F2 f2 M2 => ?_) -- 2
  refine hM_ic (n := 0) rfl (by decide) rfl (fun x3 q3 => ?_) -- 5
  refine hM_si (k := 1) rfl (by decide +kernel) rfl (fun lv4 e4_1 u4 => ?_) -- 6
  have e4_0 := u4 0 _ (by decide) (Or.inl rfl) e0
  exact g0 h2 F2 f2 x3 q3 lv4 M2 e4_0 e4_1
theorem s_wa7 {r : Int} (M : MX 49 W ρ m A h0 h F V G) (e0 : m_lk lv 0 = some (.ref m)) {lx1 : Int32} (e1 : m_lk lv 1 = some (.int lx1)) (lq1 : lx1.toInt = r) (r0 : 0 ≤ r)
    (g0 : r ≥ 6 → Q none h)
    (g1 : ∀ x4 : Int32, x4.toInt = r + 1 → ∀ lv4 : List (Nat × Value), m_lk lv4 0 = some (.ref m) → m_lk lv4 1 = some (.int x4) → r < 6 → (-1) ≤ V 24 (r).toNat → V 24 (r).toNat ≤ 15999 → V 24 (r).toNat = (-1) → HJ 219 7 lv4 [] h Q)
    (g2 : ∀ x5 : Int32, x5.toInt = V 24 (r).toNat → r < 6 → (-1) ≤ V 24 (r).toNat → V 24 (r).toNat ≤ 15999 → V 24 (r).toNat ≠ (-1) → HJ 220 0 (lv_args 0 [.ref m, .int x5]) [] h (fun v h' => HJ 219 33 lv (v.toList ++ []) h' Q))
    : HJ 219 7 lv [] h Q := by
  refine hI_il (k := 1) rfl e1 rfl ?_ -- 7
  refine hM_bp (n := 6) rfl (by decide) rfl (fun x1 q1 => ?_) -- 8
  refine hM_cge (off := 29) (t := 39) rfl lq1 q1 (by decide) rfl (fun c10 => ?_) (fun c10 => ?_) -- 10
  · refine hI_rv rfl rfl ?_
    exact g0 c10
  · refine hI_al (k := 0) rfl e0 rfl ?_ -- 13
    refine hM_ga M (by decide) rfl rfl (k := 24) (c := 9) rfl rfl rfl (by decide +kernel) rfl ?_ -- 14
    refine hI_il (k := 1) rfl e1 rfl ?_ -- 17
    refine hM_ia M (by decide) (K := 24) (R2 := 61) (L := 6) (H := 6) (lo := (-1)) (hi := 15999) rfl (by decide) rfl rfl (fun _ => rfl) rfl lq1 (by omega) (by omega) rfl (fun x2 q2 a2 b2 => ?_) -- 18
    refine hM_ic (n := (-1)) rfl (by decide) rfl (fun x3 q3 => ?_) -- 19
    refine hM_ceq (off := 13) (t := 33) rfl q2 q3 (by decide) rfl (fun c20 => ?_) (fun c20 => ?_) -- 20
    · refine hM_inc (k := 1) (z := 1) rfl e1 lq1 (by decide) (by omega) (by omega) (by decide +kernel) rfl (fun lv4 x4 q4 e4_1 u4 => ?_) -- 33
      have e4_0 := u4 0 _ (by decide) (Or.inl rfl) e0
      refine hI_go (pc' := 7) (off := (-29)) rfl (by decide) ?_ -- 36
      exact g1 x4 q4 lv4 e4_0 e4_1 c10 a2 b2 c20
    · refine hI_al (k := 0) rfl e0 rfl ?_ -- 23
      refine hI_al (k := 0) rfl e0 rfl ?_ -- 24
      refine hM_ga M (by decide) rfl rfl (k := 24) (c := 9) rfl rfl rfl (by decide +kernel) rfl ?_ -- 25
      refine hI_il (k := 1) rfl e1 rfl ?_ -- 28
      refine hM_ia M (by decide) (K := 24) (R2 := 61) (L := 6) (H := 6) (lo := (-1)) (hi := 15999) rfl (by decide) rfl rfl (fun _ => rfl) rfl lq1 (by omega) (by omega) rfl (fun x5 q5 a5 b5 => ?_) -- 29
      refine hM_iv M (by decide) rfl rfl (by decide) (as := [.int x5]) (r := []) rfl rfl (by decide +kernel) rfl (by decide +kernel) rfl rfl rfl rfl rfl ?_ -- 30
      exact g2 x5 q5 c10 a2 b2 c20
theorem s_wa33 {r : Int} (M : MX 49 W ρ m A h0 h F V G) (e0 : m_lk lv 0 = some (.ref m)) {lx1 : Int32} (e1 : m_lk lv 1 = some (.int lx1)) (lq1 : lx1.toInt = r) (r0 : 0 ≤ r) (r1 : r < 6)
    (g0 : ∀ x1 : Int32, x1.toInt = r + 1 → ∀ lv1 : List (Nat × Value), m_lk lv1 0 = some (.ref m) → m_lk lv1 1 = some (.int x1) → HJ 219 7 lv1 [] h Q)
    : HJ 219 33 lv [] h Q := by
  refine hM_inc (k := 1) (z := 1) rfl e1 lq1 (by decide) (by omega) (by omega) (by decide +kernel) rfl (fun lv1 x1 q1 e1_1 u1 => ?_) -- 33
  have e1_0 := u1 0 _ (by decide) (Or.inl rfl) e0
  refine hI_go (pc' := 7) (off := (-29)) rfl (by decide) ?_ -- 36
  exact g0 x1 q1 lv1 e1_0 e1_1
theorem l_wa {F0 : Nat → Int} {V0 : Nat → Nat → Int} (hw : d_sub g_wk W = true) (sh : p_sh (F0 17) (V0 22) (V0 23)) (hp : p_hp (F0 17) (V0 22) (V0 24)) (n1 : F0 17 ≤ 16000) (g : ∀ (h' : MH) (F' : Nat → Int) (V' : Nat → Nat → Int), MX 49 W ρ m A h0 h' F' V' G → w_I F0 V0 F' V' → F' 26 = (p_ws (V0 24) 6 : Int) → w_X (F0 17) (V0 22) (V' 27) (V' 29) (V' 28) (p_ws (V0 24) 6) → (∀ S, rn_of F0 V0 S → wk_of V' (p_ws (V0 24) 6) (wk_all S (V0 24))) → Q none h') : ∀ (d r : Nat) (lv : List (Nat × Value)) (h : MH) (F : Nat → Int) (V : Nat → Nat → Int) (xr : Int32), r + d = 6 → MX 49 W ρ m A h0 h F V G → w_I F0 V0 F V → F 26 = (p_ws (V0 24) r : Int) → w_X (F0 17) (V0 22) (V 27) (V 29) (V 28) (p_ws (V0 24) r) → (∀ S, rn_of F0 V0 S → ∃ O, wk_of V (p_ws (V0 24) r) O ∧ wk_go S (64 - p_ws (V0 24) r) (wk_rs (V0 24) d r) O = wk_all S (V0 24)) → xr.toInt = (r : Int) → m_lk lv 0 = some (.ref m) → m_lk lv 1 = some (.int xr) → HJ 219 7 lv [] h Q := by
  intro d
  induction d with
  | zero =>
    intro r lv h F V xr hd M I fw X KJ hr e0 e1
    have r6 : r = 6 := by omega
    subst r6
    exact s_wa7 M e0 e1 hr (by omega) (fun _ => g h F V M I fw X (fun S a => by
      obtain ⟨O, o, e⟩ := KJ S a
      rw [wk_rs, wk_go0] at e
      rw [← e]
      exact o)) (fun x4 q4 lv4 e4_0 e4_1 c10 a2 b2 c20 => by omega) (fun x5 q5 c10 a2 b2 c20 => by omega)
  | succ d ih =>
    intro r lv h F V xr hd M I fw X KJ hr e0 e1
    have v24 : V 24 = V0 24 := I.2 24 (by decide)
    have v22 : V 22 = V0 22 := I.2 22 (by decide)
    have v23 : V 23 = V0 23 := I.2 23 (by decide)
    have f17 : F 17 = F0 17 := I.1 17 (by decide)
    refine s_wa7 M e0 e1 hr (by omega) (fun _ => by omega) (fun x4 q4 lv4 e4_0 e4_1 c10 a2 b2 c20 => ?_) (fun x5 q5 c10 a2 b2 c20 => ?_)
    · rw [Int.toNat_natCast, v24] at c20
      have e : p_ws (V0 24) (r + 1) = p_ws (V0 24) r := by rw [p_ws, y_tg0 c20]; omega
      exact ih (r + 1) lv4 h F V x4 (by omega) M I (by rw [e]; exact fw) (by rw [e]; exact X) (fun S a => by
        obtain ⟨O, o, z⟩ := KJ S a
        rw [wk_rs, if_pos c20] at z
        rw [e]
        exact ⟨O, o, z⟩) (by omega) e4_0 e4_1
    · rw [Int.toNat_natCast, v24] at c20 a2 b2 q5
      obtain ⟨t0, t1, t2⟩ := (hp r (by omega)).resolve_left c20
      have e : p_ws (V0 24) (r + 1) = p_ws (V0 24) r + 2 ^ r := by rw [p_ws, y_tg1 c20]; omega
      have lt := p_wsL (f := V0 24) (r + 1)
      have l2 : 2 ^ (r + 1) ≤ 2 ^ 6 := Nat.pow_le_pow_right (by decide) (by omega)
      have l3 : (2 : Nat) ^ 6 = 64 := rfl
      refine c_walkTree (r := r) (w := p_ws (V0 24) r) M hw (by rw [f17, v22, v23]; exact sh) (by omega) q5 t0 (by omega) (by rw [v22]; exact t2) (by omega) fw (by omega) (by rw [f17, v22]; exact X) (fun h2 F2 V2 M2 I2 f2 X2 RJ => ?_)
      rw [f17, v22] at X2
      refine s_wa33 M2 e0 e1 hr (by omega) (by omega) (fun x1 q1 lv1 d0 d1 => ?_)
      exact ih (r + 1) lv1 h2 F2 V2 x1 (by omega) M2 ⟨fun K hK => (I2.1 K hK).trans (I.1 K hK), fun K hK => (I2.2 K hK).trans (I.2 K hK)⟩ (by rw [e]; exact f2) (by rw [e]; exact X2) (fun S a => by
        have k := KJ S a
        rw [wk_rs, if_neg c20] at k
        rw [e]
        exact RJ S _ _ (rn_ofV a f17 (I.2 20 (by decide)) (I.2 21 (by decide)) v22 v23) k) (by omega) d0 d1
theorem c_walkAll (M : MX 49 W ρ m A h0 h F V G) (b0_ : m_lk lv 0 = some (.ref m)) (hw : d_sub g_wk W = true) (sh : p_sh (F 17) (V 22) (V 23)) (hp : p_hp (F 17) (V 22) (V 24)) (n1 : F 17 ≤ 16000) (g : ∀ (h' : MH) (F' : Nat → Int) (V' : Nat → Nat → Int), MX 49 W ρ m A h0 h' F' V' G → w_I F V F' V' → F' 26 = (p_ws (V 24) 6 : Int) → w_X (F 17) (V 22) (V' 27) (V' 29) (V' 28) (p_ws (V 24) 6) → (∀ S h, rn_of F V S → hp6 (V 24) h → wk_of V' (p_ws (V 24) 6) (wk_all S h)) → Q none h') : HJ 219 0 lv [] h Q := by
  have hw2 : d_sub [(49, 26)] W = true := d_subm hw (by decide +kernel)
  refine s_wa0 M b0_ hw2 (fun h2 F2 f2 x3 q3 lv4 M2 e4_0 e4_1 => ?_)
  exact l_wa (F0 := F) (V0 := V) hw sh hp n1 (fun h' F' V' M' I' f' X' J' => g h' F' V' M' I' f' X' (fun S h a e => by
    have := J' S a
    unfold wk_all at this ⊢
    rw [wk_rsC (f := V 24) (h := h) (fun k _ k2 => e k (by omega))] at this
    exact this)) 6 0 lv4 h2 F2 V x3 rfl M2 ⟨fun K hK => by rw [f2, m_uN _ _ _ _ hK], fun _ _ => rfl⟩ (by rw [f2, m_uE]; rfl) (fun i hi => absurd hi (Nat.not_lt_zero i)) (fun S _ => ⟨wk_0, ⟨rfl, fun i hi => absurd hi (Nat.not_lt_zero i)⟩, rfl⟩) q3 e4_0 e4_1
end
