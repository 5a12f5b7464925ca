-- what an act was paid, by the reference
section
variable {i pc pc' : Nat} {lv : List (Nat × Value)} {st : List Value} {h : MH} {Q : Option Value → MH → Prop}
end
-- how many roots
section
variable {lv : List (Nat × Value)} {Q : Option Value → MH → Prop} {W : List (Nat × Nat)} {ρ : Nat → Nat} {m : Nat} {A : Nat → Nat} {h0 h : MH} {F : Nat → Int} {V : Nat → Nat → Int} {G : Nat → Nat → Int64}
end
-- the reference's books of a laid row
-- bits of a long
-- from which versions: one row alone
-- a row laid, and what is told of it
section
variable {lv : List (Nat × Value)} {Q : Option Value → MH → Prop} {W : List (Nat × Nat)} {ρ : Nat → Nat} {m : Nat} {A : Nat → Nat} {h0 h : MH} {F : Nat → Int} {V : Nat → Nat → Int} {G : Nat → Nat → Int64}
end
section
variable {Q : Option Value → MH → Prop} {ρ : Nat → Nat} {h : MH}
-- whether a version comes from another, by the class
end
-- WOULD, FOLD, DRAWN: all that is told stays (token 15 with the nodes told)
-- the past that did it: its books stay
section
variable {ρ : Nat → Nat} {h : MH} {Q : Option Value → MH → Prop}
end
-- arguments: the sixth; longs
-- what would answers
-- what fold asks of versions: nothing changes
section
variable {lv : List (Nat × Value)} {Q : Option Value → MH → Prop} {h0 h : MH} {H : Nat → Nat → Int}
end
section
variable {ρ : Nat → Nat} {h : MH} {Q : Option Value → MH → Prop}
end
-- SORTED BY WEIGHT: one insertion, pure; the class's
def st_at (f : Nat → Int) (x : Int) : Nat → Nat
  | 0 => 0
  | j + 1 => if x < f j then st_at f x j else j + 1
def st_put (f : Nat → Int) (x : Int) (n : Nat) : Nat → Int := fun j => if j < st_at f x n then f j else if j = st_at f x n then x else f (j - 1)
def st_so (w : Nat → Int) : Nat → Nat → Int
  | 0 => fun _ => 0
  | i + 1 => st_put (st_so w i) (w i) i
theorem st_atL {f : Nat → Int} {x : Int} : ∀ n, st_at f x n ≤ n
  | 0 => Nat.le_refl _
  | n + 1 => by
    rw [st_at]
    split
    · exact Nat.le_succ_of_le (st_atL n)
    · exact Nat.le_refl _
theorem st_soP {P : Int → Prop} {w : Nat → Int} : ∀ n, (∀ i, i < n → P (w i)) → ∀ j, j < n → P (st_so w n j)
  | 0, _, j, hj => absurd hj (Nat.not_lt_zero j)
  | n + 1, hp, j, hj => by
    have ih := st_soP n (fun i hi => hp i (by omega))
    have l := st_atL (f := st_so w n) (x := w n) n
    show P (st_put (st_so w n) (w n) n j)
    unfold st_put
    split
    · exact ih j (by omega)
    · split
      · exact hp n (by omega)
      · exact ih (j - 1) (by omega)
def st_S (s w : Nat → Int) (i : Nat) : Prop := ∀ j, j < i → (0 ≤ s j ∧ s j < (i : Int)) ∧ w (s j).toNat = st_so w i j
theorem st_fin {w s0 s : Nat → Int} {i to : Nat} (S : st_S s0 w i) (t1 : to ≤ i) (a : ∀ j, j < to → s j = s0 j) (b : ∀ j, to < j → j ≤ i → s j = s0 (j - 1)) (e : st_at (st_so w i) (w i) i = to) : st_S (m_u s to (i : Int)) w (i + 1) := fun j hj => by
  show _ ∧ _ = st_put (st_so w i) (w i) i j
  unfold st_put
  rw [e]
  by_cases c1 : j < to
  · rw [m_uN _ _ _ _ (by omega), a j c1, if_pos c1]
    obtain ⟨⟨x, y⟩, z⟩ := S j (by omega)
    exact ⟨⟨x, by omega⟩, z⟩
  · by_cases c2 : j = to
    · subst c2
      rw [m_uE, if_neg c1, if_pos rfl, Int.toNat_natCast]
      exact ⟨⟨Int.natCast_nonneg _, by omega⟩, rfl⟩
    · rw [m_uN _ _ _ _ c2, b j (by omega) (by omega), if_neg c1, if_neg c2]
      obtain ⟨⟨x, y⟩, z⟩ := S (j - 1) (by omega)
      exact ⟨⟨x, by omega⟩, z⟩
def st_T (T K w : Nat → Int) (i : Nat) : Prop := ∀ j, j < i → ((0 ≤ T j ∧ T j ≤ 127) ∧ 0 ≤ K j) ∧ 128 * K j + T j = st_so w i j
theorem st_fin2 {w T0 K0 T K : Nat → Int} {i to : Nat} {t k : Int} (S : st_T T0 K0 w i) (t1 : to ≤ i) (a : ∀ j, j < to → T j = T0 j ∧ K j = K0 j) (b : ∀ j, to < j → j ≤ i → T j = T0 (j - 1) ∧ K j = K0 (j - 1)) (e : st_at (st_so w i) (w i) i = to) (t0 : 0 ≤ t) (t127 : t ≤ 127) (k0 : 0 ≤ k) (wi : w i = 128 * k + t) : st_T (m_u T to t) (m_u K to k) w (i + 1) := fun j hj => by
  show _ ∧ _ = st_put (st_so w i) (w i) i j
  unfold st_put
  rw [e]
  by_cases c1 : j < to
  · rw [m_uN _ _ _ _ (by omega), m_uN _ _ _ _ (by omega), (a j c1).1, (a j c1).2, if_pos c1]
    exact S j (by omega)
  · by_cases c2 : j = to
    · subst c2
      rw [m_uE, m_uE, if_neg c1, if_pos rfl]
      exact ⟨⟨⟨t0, t127⟩, k0⟩, wi.symm⟩
    · rw [m_uN _ _ _ _ c2, m_uN _ _ _ _ c2, (b j (by omega) (by omega)).1, (b j (by omega) (by omega)).2, if_neg c1, if_neg c2]
      exact S (j - 1) (by omega)
-- in order; how many are below
theorem st_atP {f : Nat → Int} {x : Int} : ∀ n, (∀ j, st_at f x n ≤ j → j < n → x < f j) ∧ (st_at f x n = 0 ∨ ¬ x < f (st_at f x n - 1))
  | 0 => ⟨fun j _ h => absurd h (Nat.not_lt_zero j), Or.inl rfl⟩
  | n + 1 => by
    obtain ⟨a, b⟩ := st_atP (f := f) (x := x) n
    rw [st_at]
    by_cases c : x < f n
    · rw [if_pos c]
      refine ⟨fun j h1 h2 => ?_, b⟩
      by_cases e : j = n
      · rw [e]
        exact c
      · exact a j h1 (by omega)
    · rw [if_neg c]
      exact ⟨fun j h1 h2 => absurd h1 (by omega), Or.inr c⟩
theorem st_mono {w : Nat → Int} : ∀ n j, j + 1 < n → st_so w n j ≤ st_so w n (j + 1)
  | 0, j, h => absurd h (by omega)
  | n + 1, j, h => by
    obtain ⟨a, b⟩ := st_atP (f := st_so w n) (x := w n) n
    have l := st_atL (f := st_so w n) (x := w n) n
    show st_put (st_so w n) (w n) n j ≤ st_put (st_so w n) (w n) n (j + 1)
    unfold st_put
    generalize st_at (st_so w n) (w n) n = at_ at *
    by_cases c1 : j + 1 < at_
    · rw [if_pos (by omega), if_pos c1]
      exact st_mono n j (by omega)
    · by_cases c2 : j + 1 = at_
      · rw [if_pos (by omega), if_neg c1, if_pos c2]
        rcases b with b | b
        · omega
        · rw [← c2, Nat.add_sub_cancel] at b
          omega
      · rw [if_neg (by omega), if_neg c1, if_neg c2, Nat.add_sub_cancel]
        by_cases c3 : j = at_
        · rw [if_pos c3]
          have := a j (by omega) (by omega)
          omega
        · rw [if_neg c3]
          have := st_mono (w := w) n (j - 1) (by omega)
          rw [show j - 1 + 1 = j by omega] at this
          exact this
theorem st_le {w : Nat → Int} {n i : Nat} : ∀ d, i + d < n → st_so w n i ≤ st_so w n (i + d)
  | 0, _ => Int.le_refl _
  | d + 1, h => Int.le_trans (st_le d (by omega)) (st_mono n (i + d) (by omega))
def cn_b (f : Nat → Int) (b : Int) : Nat → Nat
  | 0 => 0
  | i + 1 => cn_b f b i + if f i < b then 1 else 0
theorem cn_C {f f' : Nat → Int} {b : Int} : ∀ {n : Nat}, (∀ j, j < n → f' j = f j) → cn_b f' b n = cn_b f b n
  | 0, _ => rfl
  | n + 1, h => by rw [cn_b, cn_b, cn_C (fun j hj => h j (by omega)), h n (by omega)]
theorem cn_put {f : Nat → Int} {x b : Int} {a : Nat} {p : Nat → Int} (hp : ∀ j, p j = if j < a then f j else if j = a then x else f (j - 1)) : ∀ d, cn_b p b (a + d + 1) = cn_b f b (a + d) + if x < b then 1 else 0
  | 0 => by
    show cn_b p b (a + 1) = cn_b f b a + _
    rw [cn_b, cn_C (f := f) (fun j hj => by rw [hp j, if_pos hj]), hp a, if_neg (Nat.lt_irrefl a), if_pos rfl]
  | d + 1 => by
    have ih := cn_put (b := b) hp d
    show cn_b p b (a + d + 1 + 1) = cn_b f b (a + d + 1) + _
    have e : p (a + d + 1) = f (a + d) := by rw [hp (a + d + 1), if_neg (show ¬ a + d + 1 < a by omega), if_neg (show ¬ a + d + 1 = a by omega)]; rfl
    rw [cn_b, ih, cn_b, e]
    omega
theorem cn_so {w : Nat → Int} {b : Int} : ∀ n, cn_b (st_so w n) b n = cn_b w b n
  | 0 => rfl
  | n + 1 => by
    have l := st_atL (f := st_so w n) (x := w n) n
    have e := cn_put (f := st_so w n) (x := w n) (b := b) (a := st_at (st_so w n) (w n) n) (p := st_so w (n + 1)) (fun j => rfl) (n - st_at (st_so w n) (w n) n)
    rw [show st_at (st_so w n) (w n) n + (n - st_at (st_so w n) (w n) n) = n by omega] at e
    rw [e, cn_so n, cn_b]
theorem cn_all {f : Nat → Int} {b : Int} : ∀ i, (∀ j, j < i → f j < b) → cn_b f b i = i
  | 0, _ => rfl
  | i + 1, h => by rw [cn_b, cn_all i (fun j hj => h j (by omega)), if_pos (h i (by omega))]
theorem cn_non {f : Nat → Int} {b : Int} {i : Nat} : ∀ d, (∀ j, i ≤ j → j < i + d → ¬ f j < b) → cn_b f b (i + d) = cn_b f b i
  | 0, _ => rfl
  | d + 1, h => by
    show cn_b f b (i + d + 1) = _
    rw [cn_b, cn_non d (fun j h1 h2 => h j h1 (by omega)), if_neg (h (i + d) (by omega) (by omega))]
    rfl
-- the first one that isn't below
theorem cn_at {w : Nat → Int} {b : Int} {n i : Nat} (hi : i ≤ n) (lo : ∀ j, j < i → st_so w n j < b) (up : i = n ∨ b ≤ st_so w n i) : cn_b w b n = i := by
  rw [← cn_so n]
  have e := cn_non (f := st_so w n) (b := b) (i := i) (n - i) (fun j h1 h2 => by
    rcases up with u | u
    · omega
    · have := st_le (w := w) (n := n) (i := i) (j - i) (by omega)
      rw [show i + (j - i) = j by omega] at this
      omega)
  rw [show i + (n - i) = n by omega] at e
  rw [e, cn_all i lo]
section
variable {lv : List (Nat × Value)} {Q : Option Value → MH → Prop} {h0 h : MH} {H : Nat → Nat → Int}
theorem r_so0 {wa : Nat} (M : RX h0 h H) (e0 : m_lk lv 0 = some (.ref wa)) 
    (g0 : ∀ x1 : Int32, x1.toInt = 0 → ∀ lv2 : List (Nat × Value), m_lk lv2 0 = some (.ref wa) → m_lk lv2 1 = some (.int x1) → HJ 103 2 lv2 [] h Q)
    : HJ 103 0 lv [] h Q := by
  refine hM_ic (n := 0) rfl (by decide) rfl (fun x1 q1 => ?_) -- 0
  refine hM_si (k := 1) rfl (by decide +kernel) rfl (fun lv2 e2_1 u2 => ?_) -- 1
  have e2_0 := u2 0 _ (by decide) (Or.inl rfl) e0
  exact g0 x1 q1 lv2 e2_0 e2_1
theorem r_so2 {wa : Nat} {i : Int} (M : RX h0 h H) (e0 : m_lk lv 0 = some (.ref wa)) {lx1 : Int32} (e1 : m_lk lv 1 = some (.int lx1)) (lq1 : lx1.toInt = i)  (hk0 : (h_k h0 wa).1 = 8)
    (g0 : i ≥ H wa 8 → Q none h)
    (g1 : ∀ lv2 : List (Nat × Value), m_lk lv2 0 = some (.ref wa) → m_lk lv2 1 = some (.int lx1) → m_lk lv2 2 = some (.int lx1) → i < H wa 8 → HJ 103 12 lv2 [] h Q)
    : HJ 103 2 lv [] h Q := by
  refine hI_il (k := 1) rfl e1 rfl ?_ -- 2
  refine hI_al (k := 0) rfl e0 rfl ?_ -- 3
  refine hR_gi (c := 7) (k := 8) M hk0 rfl rfl rfl rfl (fun x1 q1 => ?_) -- 4
  have gb1 : -2147483648 ≤ H wa 8 ∧ H wa 8 ≤ 2147483647 := by rw [← q1]; exact g_iT _
  refine hM_cge (off := 64) (t := 71) rfl lq1 q1 (by decide) rfl (fun c7 => ?_) (fun c7 => ?_) -- 7
  · refine hI_rv rfl rfl ?_
    exact g0 c7
  · refine hI_il (k := 1) rfl e1 rfl ?_ -- 10
    refine hM_si (k := 2) rfl (by decide +kernel) rfl (fun lv2 e2_2 u2 => ?_) -- 11
    have e2_0 := u2 0 _ (by decide) (Or.inl rfl) e0
    have e2_1 := u2 1 _ (by decide) (Or.inl rfl) e1
    exact g1 lv2 e2_0 e2_1 e2_2 c7
theorem r_so12 {wa : Nat} {i t : Int} (M : RX h0 h H) (e0 : m_lk lv 0 = some (.ref wa)) {lx1 : Int32} (e1 : m_lk lv 1 = some (.int lx1)) (lq1 : lx1.toInt = i) {lx2 : Int32} (e2 : m_lk lv 2 = some (.int lx2)) (lq2 : lx2.toInt = t) (i0 : 0 ≤ i) (i1 : i ≤ 62) (t0 : 0 ≤ t) (t1 : t ≤ 62) (s0 : 0 < t → 0 ≤ H (h_r h0 wa 4) (t - 1).toNat ∧ H (h_r h0 wa 4) (t - 1).toNat ≤ 62) (hk0 : (h_k h0 wa).1 = 8) (ha0 : (h_k h0 (h_r h0 wa 4)).1 = 20) (hl0 : 63 ≤ ((h_k h0 (h_r h0 wa 4)).2 : Int)) (hs0 : 16 ≤ h_r h0 wa 4) (ha1 : (h_k h0 (h_r h0 wa 1)).1 = 20) (hl1 : 63 ≤ ((h_k h0 (h_r h0 wa 1)).2 : Int))
    (g0 : ∀ h1 : MH, ∀ H1 : Nat → Nat → Int, H1 = m_u H (h_r h0 wa 4) (m_u (H (h_r h0 wa 4)) (t).toNat (i)) → ∀ x2 : Int32, x2.toInt = i + 1 → ∀ lv2 : List (Nat × Value), RX h0 h1 H1 → m_lk lv2 0 = some (.ref wa) → m_lk lv2 1 = some (.int x2) → m_lk lv2 2 = some (.int lx2) → t ≤ 0 → HJ 103 2 lv2 [] h1 Q)
    (g1 : ∀ h8 : MH, ∀ H8 : Nat → Nat → Int, H8 = m_u H (h_r h0 wa 4) (m_u (H (h_r h0 wa 4)) (t).toNat (i)) → ∀ x9 : Int32, x9.toInt = i + 1 → ∀ lv9 : List (Nat × Value), RX h0 h8 H8 → m_lk lv9 0 = some (.ref wa) → m_lk lv9 1 = some (.int x9) → m_lk lv9 2 = some (.int lx2) → t > 0 → H (h_r h0 wa 1) (i).toNat ≥ H (h_r h0 wa 1) (H (h_r h0 wa 4) (t - 1).toNat).toNat → HJ 103 2 lv9 [] h8 Q)
    (g2 : ∀ h13 : MH, ∀ H13 : Nat → Nat → Int, H13 = m_u H (h_r h0 wa 4) (m_u (H (h_r h0 wa 4)) (t).toNat (H (h_r h0 wa 4) (t - 1).toNat)) → ∀ x14 : Int32, x14.toInt = t + (-1) → ∀ lv14 : List (Nat × Value), RX h0 h13 H13 → m_lk lv14 0 = some (.ref wa) → m_lk lv14 1 = some (.int lx1) → m_lk lv14 2 = some (.int x14) → t > 0 → H (h_r h0 wa 1) (i).toNat < H (h_r h0 wa 1) (H (h_r h0 wa 4) (t - 1).toNat).toNat → HJ 103 12 lv14 [] h13 Q)
    : HJ 103 12 lv [] h Q := by
  refine hI_il (k := 2) rfl e2 rfl ?_ -- 12
  refine hM_zle (off := 45) (t := 58) rfl lq2 (by decide) rfl (fun c13 => ?_) (fun c13 => ?_) -- 13
  · refine hI_al (k := 0) rfl e0 rfl ?_ -- 58
    refine hR_gr (c := 7) (k := 4) M hk0 rfl rfl rfl rfl ?_ -- 59
    refine hI_il (k := 2) rfl e2 rfl ?_ -- 62
    refine hI_il (k := 1) rfl e1 rfl ?_ -- 63
    refine hR_is M hs0 ha0 lq2 lq1 (by omega) (by omega) rfl rfl (fun h1 H1 f1 M1 => ?_) -- 64
    refine hM_inc (k := 1) (z := 1) rfl e1 lq1 (by decide) (by omega) (by omega) (by decide +kernel) rfl (fun lv2 x2 q2 e2_1 u2 => ?_) -- 65
    have e2_0 := u2 0 _ (by decide) (Or.inl rfl) e0
    have e2_2 := u2 2 _ (by decide) (Or.inl rfl) e2
    refine hI_go (pc' := 2) (off := (-66)) rfl (by decide) ?_ -- 68
    exact g0 h1 H1 f1 x2 q2 lv2 M1 e2_0 e2_1 e2_2 c13
  · refine hI_al (k := 0) rfl e0 rfl ?_ -- 16
    refine hR_gr (c := 7) (k := 1) M hk0 rfl rfl rfl rfl ?_ -- 17
    refine hI_il (k := 1) rfl e1 rfl ?_ -- 20
    refine hR_ia M ha1 lq1 (by omega) (by omega) rfl rfl (fun x3 q3 => ?_) -- 21
    have gb3 : -2147483648 ≤ H (h_r h0 wa 1) (i).toNat ∧ H (h_r h0 wa 1) (i).toNat ≤ 2147483647 := by rw [← q3]; exact g_iT _
    refine hI_al (k := 0) rfl e0 rfl ?_ -- 22
    refine hR_gr (c := 7) (k := 1) M hk0 rfl rfl rfl rfl ?_ -- 23
    refine hI_al (k := 0) rfl e0 rfl ?_ -- 26
    refine hR_gr (c := 7) (k := 4) M hk0 rfl rfl rfl rfl ?_ -- 27
    refine hI_il (k := 2) rfl e2 rfl ?_ -- 30
    refine hM_ic (n := 1) rfl (by decide) rfl (fun x4 q4 => ?_) -- 31
    refine hM_sub rfl lq2 q4 (by omega) (by omega) rfl (fun x5 q5 => ?_) -- 32
    refine hR_ia M ha0 q5 (by omega) (by omega) rfl rfl (fun x6 q6 => ?_) -- 33
    have gb6 : -2147483648 ≤ H (h_r h0 wa 4) (t - 1).toNat ∧ H (h_r h0 wa 4) (t - 1).toNat ≤ 2147483647 := by rw [← q6]; exact g_iT _
    refine hR_ia M ha1 q6 (by omega) (by omega) rfl rfl (fun x7 q7 => ?_) -- 34
    have gb7 : -2147483648 ≤ H (h_r h0 wa 1) (H (h_r h0 wa 4) (t - 1).toNat).toNat ∧ H (h_r h0 wa 1) (H (h_r h0 wa 4) (t - 1).toNat).toNat ≤ 2147483647 := by rw [← q7]; exact g_iT _
    refine hM_cge (off := 23) (t := 58) rfl q3 q7 (by decide) rfl (fun c35 => ?_) (fun c35 => ?_) -- 35
    · refine hI_al (k := 0) rfl e0 rfl ?_ -- 58
      refine hR_gr (c := 7) (k := 4) M hk0 rfl rfl rfl rfl ?_ -- 59
      refine hI_il (k := 2) rfl e2 rfl ?_ -- 62
      refine hI_il (k := 1) rfl e1 rfl ?_ -- 63
      refine hR_is M hs0 ha0 lq2 lq1 (by omega) (by omega) rfl rfl (fun h8 H8 f8 M8 => ?_) -- 64
      refine hM_inc (k := 1) (z := 1) rfl e1 lq1 (by decide) (by omega) (by omega) (by decide +kernel) rfl (fun lv9 x9 q9 e9_1 u9 => ?_) -- 65
      have e9_0 := u9 0 _ (by decide) (Or.inl rfl) e0
      have e9_2 := u9 2 _ (by decide) (Or.inl rfl) e2
      refine hI_go (pc' := 2) (off := (-66)) rfl (by decide) ?_ -- 68
      exact g1 h8 H8 f8 x9 q9 lv9 M8 e9_0 e9_1 e9_2 c13 c35
    · refine hI_al (k := 0) rfl e0 rfl ?_ -- 38
      refine hR_gr (c := 7) (k := 4) M hk0 rfl rfl rfl rfl ?_ -- 39
      refine hI_il (k := 2) rfl e2 rfl ?_ -- 42
      refine hI_al (k := 0) rfl e0 rfl ?_ -- 43
      refine hR_gr (c := 7) (k := 4) M hk0 rfl rfl rfl rfl ?_ -- 44
      refine hI_il (k := 2) rfl e2 rfl ?_ -- 47
      refine hM_ic (n := 1) rfl (by decide) rfl (fun x10 q10 => ?_) -- 48
      refine hM_sub rfl lq2 q10 (by omega) (by omega) rfl (fun x11 q11 => ?_) -- 49
      refine hR_ia M ha0 q11 (by omega) (by omega) rfl rfl (fun x12 q12 => ?_) -- 50
      have gb12 : -2147483648 ≤ H (h_r h0 wa 4) (t - 1).toNat ∧ H (h_r h0 wa 4) (t - 1).toNat ≤ 2147483647 := by rw [← q12]; exact g_iT _
      refine hR_is M hs0 ha0 lq2 q12 (by omega) (by omega) rfl rfl (fun h13 H13 f13 M13 => ?_) -- 51
      refine hM_inc (k := 2) (z := (-1)) rfl e2 lq2 (by decide) (by omega) (by omega) (by decide +kernel) rfl (fun lv14 x14 q14 e14_2 u14 => ?_) -- 52
      have e14_0 := u14 0 _ (by decide) (Or.inl rfl) e0
      have e14_1 := u14 1 _ (by decide) (Or.inl rfl) e1
      refine hI_go (pc' := 12) (off := (-43)) rfl (by decide) ?_ -- 55
      exact g2 h13 H13 f13 x14 q14 lv14 M13 e14_0 e14_1 e14_2 c13 c35
theorem l_so12 {wa n i : Nat} {w s0 : Nat → Int} {xi : Int32} (ok : wl_ok h0 wa) (n63 : n ≤ 63) (hi : i < n) (hw : ∀ j, j < n → H (h_r h0 wa 1) j = w j) (S : st_S s0 w i) (qi : xi.toInt = (i : Int)) (g : ∀ (h' : MH) (H' : Nat → Nat → Int) (lv : List (Nat × Value)) (x : Int32), RX h0 h' H' → (∀ q, q ≠ h_r h0 wa 4 → H' q = H q) → st_S (H' (h_r h0 wa 4)) w (i + 1) → x.toInt = (i : Int) + 1 → m_lk lv 0 = some (.ref wa) → m_lk lv 1 = some (.int x) → HJ 103 2 lv [] h' Q) : ∀ (to : Nat) (h' : MH) (H' : Nat → Nat → Int) (lv : List (Nat × Value)) (xt : Int32), to ≤ i → RX h0 h' H' → (∀ q, q ≠ h_r h0 wa 4 → H' q = H q) → (∀ j, j < to → H' (h_r h0 wa 4) j = s0 j) → (∀ j, to < j → j ≤ i → H' (h_r h0 wa 4) j = s0 (j - 1)) → st_at (st_so w i) (w i) i = st_at (st_so w i) (w i) to → xt.toInt = (to : Int) → m_lk lv 0 = some (.ref wa) → m_lk lv 1 = some (.int xi) → m_lk lv 2 = some (.int xt) → HJ 103 12 lv [] h' Q := by
  obtain ⟨k1, -, -, l1⟩ := ok.2.1 1 (by decide)
  obtain ⟨k4, s16, -, l4⟩ := ok.2.1 4 (by decide)
  have n14 : h_r h0 wa 1 ≠ h_r h0 wa 4 := ok.2.2 1 4 (by decide) (by decide) (by decide)
  intro to
  induction to with
  | zero =>
    intro h' H' lv xt t1 M o a b e qt e0 e1 e2
    refine r_so12 M e0 e1 qi e2 qt (by omega) (by omega) (by omega) (by omega) (fun c => absurd c (by omega)) ok.1.1 k4 l4 s16 k1 l1 (fun h1 H1 f1 x2 q2 lv2 M1 a0 a1 _ _ => ?_) (fun _ _ _ _ _ _ _ _ _ _ c => absurd c (by omega)) (fun _ _ _ _ _ _ _ _ _ _ c => absurd c (by omega))
    rw [Int.toNat_natCast] at f1
    refine g h1 H1 lv2 x2 M1 (fun q hq => by rw [f1, m_uN _ _ _ _ hq, o q hq]) ?_ q2 a0 a1
    rw [f1, m_uE]
    exact st_fin S (Nat.zero_le _) a b (e.trans rfl)
  | succ to ih =>
    intro h' H' lv xt t1 M o a b e qt e0 e1 e2
    obtain ⟨⟨x0, x1⟩, xw⟩ := S to (by omega)
    have et : (((to + 1 : Nat) : Int) - 1).toNat = to := by omega
    have ea := a to (by omega)
    have row1 : ∀ j, j < n → H' (h_r h0 wa 1) j = w j := fun j hj => by rw [o _ n14]; exact hw j hj
    refine r_so12 M e0 e1 qi e2 qt (by omega) (by omega) (by omega) (by omega) (fun _ => by rw [et, ea]; omega) ok.1.1 k4 l4 s16 k1 l1 (fun _ _ _ _ _ _ _ _ _ _ c => absurd c (by omega)) (fun h1 H1 f1 x2 q2 lv2 M1 a0 a1 _ _ c => ?_) (fun h1 H1 f1 x2 q2 lv2 M1 a0 a1 a2 _ c => ?_)
    · rw [et, ea, Int.toNat_natCast, row1 i hi, row1 _ (by omega), xw] at c
      rw [Int.toNat_natCast] at f1
      refine g h1 H1 lv2 x2 M1 (fun q hq => by rw [f1, m_uN _ _ _ _ hq, o q hq]) ?_ q2 a0 a1
      rw [f1, m_uE]
      refine st_fin S t1 a b (e.trans ?_)
      rw [st_at, if_neg (by omega)]
    · rw [et, ea, Int.toNat_natCast, row1 i hi, row1 _ (by omega), xw] at c
      rw [et, ea, Int.toNat_natCast] at f1
      refine ih h1 H1 lv2 x2 (by omega) M1 (fun q hq => by rw [f1, m_uN _ _ _ _ hq, o q hq]) (fun j hj => ?_) (fun j h1 h2 => ?_) (e.trans ?_) (by omega) a0 a1 a2
      · rw [f1, m_uE, m_uN _ _ _ _ (by omega)]
        exact a j (by omega)
      · rw [f1, m_uE]
        by_cases c2 : j = to + 1
        · rw [c2, m_uE]
          rfl
        · rw [m_uN _ _ _ _ c2]
          exact b j (by omega) h2
      · rw [st_at, if_pos c]
theorem l_so2 {wa n : Nat} {w : Nat → Int} (ok : wl_ok h0 wa) (n63 : n ≤ 63) (e8 : H wa 8 = (n : Int)) (hw : ∀ j, j < n → H (h_r h0 wa 1) j = w j) (g : ∀ (h' : MH) (H' : Nat → Nat → Int), RX h0 h' H' → (∀ q, q ≠ h_r h0 wa 4 → H' q = H q) → st_S (H' (h_r h0 wa 4)) w n → Q none h') : ∀ (d i : Nat) (h' : MH) (H' : Nat → Nat → Int) (lv : List (Nat × Value)) (xi : Int32), i + d = n → RX h0 h' H' → (∀ q, q ≠ h_r h0 wa 4 → H' q = H q) → st_S (H' (h_r h0 wa 4)) w i → xi.toInt = (i : Int) → m_lk lv 0 = some (.ref wa) → m_lk lv 1 = some (.int xi) → HJ 103 2 lv [] h' Q := by
  have k4 := (ok.2.1 4 (by decide)).1
  have nw : wa ≠ h_r h0 wa 4 := fun z => by
    rw [← z, ok.1.1] at k4
    omega
  intro d
  induction d with
  | zero =>
    intro i h' H' lv xi hd M o S qi e0 e1
    have ei : i = n := by omega
    subst ei
    have e8' : H' wa 8 = (i : Int) := by rw [o _ nw]; exact e8
    exact r_so2 M e0 e1 qi ok.1.1 (fun _ => g h' H' M o S) (fun _ _ _ _ c => absurd c (by omega))
  | succ d ih =>
    intro i h' H' lv xi hd M o S qi e0 e1
    have e8' : H' wa 8 = (n : Int) := by rw [o _ nw]; exact e8
    refine r_so2 M e0 e1 qi ok.1.1 (fun c => absurd c (by omega)) (fun lv2 a0 a1 a2 _ => ?_)
    exact l_so12 (H := H) ok n63 (by omega) hw S qi (fun h1 H1 lv3 x M1 o1 S1 q1 b0 b1 => ih (i + 1) h1 H1 lv3 x (by omega) M1 o1 S1 (by omega) b0 b1) i h' H' lv2 xi (Nat.le_refl _) M o (fun _ _ => rfl) (fun j h1 h2 => absurd h1 (by omega)) rfl qi a0 a1 a2
theorem k_sort {wa n : Nat} {w : Nat → Int} (M : RX h0 h H) (ok : wl_ok h0 wa) (n63 : n ≤ 63) (e8 : H wa 8 = (n : Int)) (hw : ∀ j, j < n → H (h_r h0 wa 1) j = w j) (g : ∀ (h' : MH) (H' : Nat → Nat → Int), RX h0 h' H' → (∀ q, q ≠ h_r h0 wa 4 → H' q = H q) → st_S (H' (h_r h0 wa 4)) w n → Q none h') : HJ 103 0 (lv_args 0 [.ref wa]) [] h Q :=
  r_so0 M rfl (fun x1 q1 lv2 a0 a1 => l_so2 (H := H) ok n63 e8 hw g n 0 h H lv2 x1 (by omega) M (fun _ _ => rfl) (fun j hj => absurd hj (Nat.not_lt_zero j)) q1 a0 a1)
end
-- A VERSION SEEN: the class's walk of it, and the reference's
theorem vw_row {ρ : Nat → Nat} {h : MH} {wa : Nat} (ht : TH c_sp ρ h) (hw : ρ wa = 16) : ∀ k, k < 7 → ρ (h_r h wa k) = pa_R k := by
  have fw := fun (k R2 : Nat) (e : r_ft _ k = some (.inr (.inr (R2, true)))) => (th_rf ht (R := 16) (by decide) rfl hw (k := k) (R2 := R2) e (fun z => by cases z)).2
  intro k hk
  match k, hk with
  | 0, _ => exact fw 0 17 rfl
  | 1, _ => exact fw 1 18 rfl
  | 2, _ => exact fw 2 21 rfl
  | 3, _ => exact fw 3 19 rfl
  | 4, _ => exact fw 4 23 rfl
  | 5, _ => exact fw 5 20 rfl
  | 6, _ => exact fw 6 22 rfl
theorem vw_d : ∀ a, a < 7 → ∀ b, b < 7 → a ≠ b → pa_R a ≠ pa_R b := by decide +kernel
theorem vw_6 : ∀ a, a < 7 → pa_R a ≠ 35 := by decide +kernel
theorem wl_okT {ρ : Nat → Nat} {h : MH} {wa : Nat} (ht : TH c_sp ρ h) (hw : ρ wa = 16) : wl_ok h wa := by
  have c := t_spec ht (by decide) (rfl : c_sp[16]? = some _) hw
  have rw_ := vw_row ht hw
  refine ⟨⟨c.1, c.2.2.1 rfl, (ht.2 wa (by rw [hw]; decide)).1⟩, fun k hk => ?_, fun a b ha hb hn => ne_r (rw_ a ha) (rw_ b hb) (vw_d a ha b hb hn)⟩
  have e := rw_ k hk
  have b := List.all_eq_true.mp pa_Rall k (List.mem_range.mpr (by omega))
  unfold pa_Rb at b
  split at b
  · next rs hs =>
    rw [Bool.and_eq_true, Bool.and_eq_true, Bool.and_eq_true] at b
    obtain ⟨b1, b2, b3, b4⟩ := b
    have c := t_spec ht (pa_Rn k (by omega)).1 hs e
    have b1 := Nat.eq_of_beq_eq_true b1
    have b2 := Nat.le_of_ble_eq_true b2
    have n63 : pa_n k = 63 := if_pos hk
    have c21 := c.2.1
    exact ⟨c.1.trans b1, c.2.2.1 b4, (ht.2 _ (by rw [e]; exact (pa_Rn k (by omega)).1)).1, by omega⟩
  · cases b
theorem wk_chl {S : PSt} {l v : Int} {w : Nat} : ∀ r, wk_ch (ps_le S l) v w r = wk_ch S v w r
  | 0 => rfl
  | r + 1 => by
    show (ps_b S (6 * v.toNat + r), (w : Int)) :: wk_ch (ps_le S l) v w r = (ps_b S (6 * v.toNat + r), (w : Int)) :: wk_ch S v w r
    rw [wk_chl r]
theorem wk_gol {S : PSt} {l : Int} : ∀ (f : Nat) (L : List (Int × Int)) (O : WKt), wk_go (ps_le S l) f L O = wk_go S f L O
  | 0, _, _ => rfl
  | _ + 1, [], _ => rfl
  | f + 1, (v, u) :: L, O => by
    show wk_go (ps_le S l) f (wk_ch (ps_le S l) v O.1 (ps_k S v.toNat).toNat ++ L) (wk_on v u O) = wk_go S f (wk_ch S v O.1 (ps_k S v.toNat).toNat ++ L) (wk_on v u O)
    rw [wk_chl, wk_gol f]
theorem wk_le {S : PSt} {l : Int} {f : Nat → Int} : wk_all (ps_le S l) f = wk_all S f := wk_gol _ _ _
theorem wl_le {h0 : MH} {H : Nat → Nat → Int} {wa : Nat} {S : PSt} {l : Int} {f : Nat → Int} (w : wl_of h0 H wa (ps_le S l) (wk_all (ps_le S l) f)) : wl_of h0 H wa S (wk_all S f) := by
  rw [wk_le] at w
  exact w
def wt_ (S : PSt) (O : WKt) (i : Nat) : Int := 128 * ps_y S (O.2.1 i).toNat + ps_t S (O.2.1 i).toNat
def vw_D : List (Nat × Nat) := [(6, 5), (16, 0), (16, 1), (16, 2), (16, 3), (16, 8), (17, 1001), (17, 1002), (18, 1001), (18, 1002), (21, 1001), (21, 1002), (19, 1001), (19, 1002)]
theorem c_seen {ρ : Nat → Nat} {h : MH} {Q : Option Value → MH → Prop} {p n : Nat} {Y : RYt} {v : Int} {xv : Int32} (hC : CCok c_CC ρ) (ht : TH c_sp ρ h) (h16 : ρ 16 = 6) (n1 : c_PT 1 ρ h) (hp : ρ p = 29) (pl : pl_o h p) (B : bk_0 h p Y) (O : ry_ok Y n) (qv : xv.toInt = v) (v0 : 0 ≤ v) (v1 : v < (ry_v Y : Int)) (g : ∀ (ρ' : Nat → Nat) (h' : MH), FQ ρ ρ' c_m102.2.1 h h' → TH c_sp ρ' h' → c_PT 1 ρ' h' → (pa_ok h' p ∧ bk_0 h' p Y ∧ ρ' p = 29) → wl_of h' (z_i h') (h_r h 16 5) (ry_s Y) (wk_all (ry_s Y) (ry_h Y v)) → h_r h' 16 5 = h_r h 16 5 → wl_ok h' (h_r h 16 5) → st_S (z_i h' (h_r h' (h_r h 16 5) 4)) (wt_ (ry_s Y) (wk_all (ry_s Y) (ry_h Y v))) (wk_all (ry_s Y) (ry_h Y v)).1 → h_r h' (h_r h 16 5) 1 = h_r h (h_r h 16 5) 1 → Q (some (.ref (h_r h 16 5))) h') : HJ 102 0 (lv_args 0 [.ref 16, .ref p, .int xv]) [] h Q := by
  have k16 : (h_k h 16).1 = 9 := (t_spec ht (by decide) (rfl : c_sp[6]? = some _) h16).1
  have fw := (th_rf ht (R := 6) (by decide) rfl h16 (k := 5) (R2 := 16) rfl (fun z => by cases z)).2
  have ok := pa_okT ht n1 hp pl
  have r0 := (past_ob ht hp).1.1
  have rc := (th_rf ht (R := 39) (by decide) rfl r0 (k := 0) rfl (fun z => by cases z)).2
  have rw_ := vw_row ht fw
  obtain ⟨⟨-, -, v41⟩, -, -, -, -, ⟨l, I⟩, -, b8⟩ := id B
  have r6 : ρ (pa_w h p (18 + v.toNat)) = 35 := (past_row ht hp (18 + v.toNat) (by omega)).trans (if_neg (by omega))
  obtain ⟨kr, lr, -⟩ := ok.2.2.2.1
  refine hI_al (k := 0) rfl rfl rfl ?_
  refine hI_gr (c := 8) (k := 5) rfl rfl rfl k16 rfl ?_
  refine hI_al (k := 1) rfl rfl rfl ?_
  refine hI_gr (c := 3) (k := 0) rfl rfl rfl ok.1.1 rfl ?_
  refine hI_al (k := 1) rfl rfl rfl ?_
  refine hI_gr (c := 3) (k := 2) rfl rfl rfl ok.1.1 rfl ?_
  refine hI_il (k := 2) rfl rfl rfl ?_
  refine hI_aa (o := h_r h p 2) rfl ⟨by rw [kr]; decide, by rw [kr]; decide⟩ (by omega) (by omega) rfl ?_
  have er : h_r h (h_r h p 2) xv.toInt.toNat = pa_w h p (18 + v.toNat) := by rw [pa_wr, qv]
  rw [er]
  have a18 := pa_ap ok (i := 18 + v.toNat) (by omega) (by omega)
  refine hM_iv (MX.start (W := []) ht fw) (by decide) rfl rfl (by decide) (as := [.ref (h_r h p 0), .ref (pa_w h p (18 + v.toNat))]) (r := []) rfl rfl (by decide +kernel) rfl (by decide +kernel) rfl rfl rfl rfl rfl ?_
  refine HJ.both (k_look (S := ps_le (ry_s Y) l) (f := ry_h Y v) (RX.start h) (wl_okT ht fw) (nl_nd ok.2.1 I.1) I ⟨ne_r r0 fw (by decide), fun k hk => ne_r r0 (rw_ k hk) (Ne.symm (pa_Rn k (by omega)).2.2.1)⟩ ⟨ne_r rc fw (by decide), fun k hk => ne_r rc (rw_ k hk) (Ne.symm ((pa_Rn k (by omega)).2.2.2.2.2.2.2.2.2.2.resolve_left (by omega)))⟩ a18.1 ⟨ne_r r6 fw (by decide), fun k hk => ne_r r6 (rw_ k hk) (Ne.symm (vw_6 k hk))⟩ (fun r hr => by rw [ry_hv v0]; exact b8 v.toNat (by omega) r hr) O.1.1 (by rw [ry_hv v0]; exact O.1.2 v.toNat (by omega)) (Q := fun q h1 => q = none ∧ ∃ H1, RX h h1 H1 ∧ wl_of h H1 (h_r h 16 5) (ry_s Y) (wk_all (ry_s Y) (ry_h Y v))) (fun h1 H1 M1 _ w1 => ⟨rfl, H1, M1, wl_le w1⟩)) (c_k74 (Q := fun q h1 => ∃ ρ1, FQ ρ ρ1 c_m74.2.1 h h1 ∧ TH c_sp ρ1 h1 ∧ c_PT 1 ρ1 h1) hC ht rfl rfl rfl fw r0 r6 n1 (fun ρ1 h1 f t m1 => ⟨ρ1, f, t, m1⟩)) (fun q h1 ⟨eq, H1, M1, w1⟩ ⟨ρ1, f1, t1, m1⟩ => ?_)
  subst eq
  show HJ 102 17 _ [] h1 Q
  have rr : h_r h1 = h_r h := M1.2.2.1.1
  have h16' : ρ1 16 = 6 := (f1.2.1 16 (by rw [h16]; decide)).trans h16
  have fw1 : ρ1 (h_r h 16 5) = 16 := (f1.2.1 _ (by rw [fw]; decide)).trans fw
  have k16' : (h_k h1 16).1 = 9 := (t_spec t1 (by decide) (rfl : c_sp[6]? = some _) h16').1
  refine hI_al (k := 0) rfl rfl rfl ?_
  refine hI_gr (c := 8) (k := 5) rfl rfl rfl k16' rfl ?_
  rw [rr]
  refine hM_iv (MX.start (W := []) t1 fw1) (by decide) rfl rfl (by decide) (as := []) (r := []) rfl rfl (by decide +kernel) rfl (by decide +kernel) rfl rfl rfl rfl rfl ?_
  have w63 := p_wsL (f := ry_h Y v) 6
  have e64 : (2 : Nat) ^ 6 = 64 := by decide
  rw [e64] at w63
  have wi := wk_allI (S := ry_s Y) (f := ry_h Y v) O.1.1 (by rw [ry_hv v0]; exact O.1.2 v.toNat (by omega))
  have zi : ∀ a j, z_i h1 a j = H1 a j := fun a j => by rw [M1.zi]
  refine HJ.both (k_sort (w := wt_ (ry_s Y) (wk_all (ry_s Y) (ry_h Y v))) (n := (wk_all (ry_s Y) (ry_h Y v)).1) (RX.start h1) (wl_okT t1 fw1) (by omega) ((zi _ 8).trans w1.1) (fun j hj => by rw [rr]; exact (zi _ j).trans (w1.2 j hj).2.1) (Q := fun q h2 => q = none ∧ ∃ H2, RX h1 h2 H2 ∧ st_S (H2 (h_r h1 (h_r h 16 5) 4)) (wt_ (ry_s Y) (wk_all (ry_s Y) (ry_h Y v))) (wk_all (ry_s Y) (ry_h Y v)).1) (fun h2 H2 M2 _ s2 => ⟨rfl, H2, M2, s2⟩)) (c_k103 (Q := fun q h2 => ∃ ρ2, FQ ρ1 ρ2 c_m103.2.1 h1 h2 ∧ TH c_sp ρ2 h2) (hC.x f1) t1 rfl fw1 (fun ρ2 h2 f t => ⟨ρ2, f, t⟩)) (fun q h2 ⟨eq, H2, M2, s2⟩ ⟨ρ2, f2, t2⟩ => ?_)
  subst eq
  show HJ 102 24 _ [] h2 Q
  have h16'' : ρ2 16 = 6 := (f2.2.1 16 (by rw [h16']; decide)).trans h16'
  have fw2 : ρ2 (h_r h 16 5) = 16 := (f2.2.1 _ (by rw [fw1]; decide)).trans fw1
  have k16'' : (h_k h2 16).1 = 9 := (t_spec t2 (by decide) (rfl : c_sp[6]? = some _) h16'').1
  have lt : ∀ {x : Nat}, ρ1 x ≠ 0 → x < 16 + h_n h1 := fun {x} hx => (t1.2 x hx).1
  have hn : d_no vw_D c_m103.2.1 = true := by decide +kernel
  have l16 := lt (x := 16) (by rw [h16']; decide)
  have lw := lt (x := h_r h 16 5) (by rw [fw1]; decide)
  have e5 : h_r h2 16 5 = h_r h 16 5 := ((fq_f f2 hn (List.mem_of_getElem? (i := 0) rfl) (by decide) h16' l16).2).trans (by rw [rr])
  refine hI_al (k := 0) rfl rfl rfl ?_
  refine hI_gr (c := 8) (k := 5) rfl rfl rfl k16'' rfl ?_
  rw [e5]
  have F : FQ ρ ρ2 c_m102.2.1 h h2 := (f1.mono (by decide +kernel)).trans (f2.mono (by decide +kernel))
  have m2 : c_PT 1 ρ2 h2 := c_PTx 1 _ _ _ h1 h2 t1 f2 (by decide +kernel) m1
  have sm := pl_fr ht F (by decide +kernel) hp
  have hp2 : ρ2 p = 29 := (F.2.1 p (by rw [hp]; decide)).trans hp
  refine hI_ra rfl rfl (g ρ2 h2 F t2 m2 ⟨pa_okT t2 m2 hp2 (pl_sameO sm.1 pl), bk_sameB sm.1 sm.2 B, hp2⟩ ?_ e5 (wl_okT t2 fw2) (by rw [M2.2.2.1.1, show z_i h2 = H2 from funext (fun a => funext (fun j => M2.2.2.2 a j))]; exact s2) (by rw [M2.2.2.1.1, rr]))
  have rw1 := vw_row t1 fw1
  have q0 : ρ1 (h_r h1 (h_r h 16 5) 0) = 17 := rw1 0 (by decide)
  have q1 : ρ1 (h_r h1 (h_r h 16 5) 1) = 18 := rw1 1 (by decide)
  have q2 : ρ1 (h_r h1 (h_r h 16 5) 2) = 21 := rw1 2 (by decide)
  have q3 : ρ1 (h_r h1 (h_r h 16 5) 3) = 19 := rw1 3 (by decide)
  have c0 := (fq_f f2 hn (List.mem_of_getElem? (i := 1) rfl) (by decide) fw1 lw).2
  have c1 := (fq_f f2 hn (List.mem_of_getElem? (i := 2) rfl) (by decide) fw1 lw).2
  have c2 := (fq_f f2 hn (List.mem_of_getElem? (i := 3) rfl) (by decide) fw1 lw).2
  have c3 := (fq_f f2 hn (List.mem_of_getElem? (i := 4) rfl) (by decide) fw1 lw).2
  have c8 := (fq_f f2 hn (List.mem_of_getElem? (i := 5) rfl) (by decide) fw1 lw).1
  have d0 := fun j => (fq_e j f2 hn (List.mem_of_getElem? (i := 6) rfl) (List.mem_of_getElem? (i := 7) rfl) q0 (lt (by rw [q0]; decide))).1
  have d1 := fun j => (fq_e j f2 hn (List.mem_of_getElem? (i := 8) rfl) (List.mem_of_getElem? (i := 9) rfl) q1 (lt (by rw [q1]; decide))).1
  have d2 := fun j => (fq_e j f2 hn (List.mem_of_getElem? (i := 10) rfl) (List.mem_of_getElem? (i := 11) rfl) q2 (lt (by rw [q2]; decide))).1
  have d3 := fun j => (fq_e j f2 hn (List.mem_of_getElem? (i := 12) rfl) (List.mem_of_getElem? (i := 13) rfl) q3 (lt (by rw [q3]; decide))).1
  rw [rr] at c0 c1 c2 c3 d0 d1 d2 d3
  refine ⟨(congrArg Int32.toInt c8).trans ((zi _ 8).trans w1.1), fun i hi => ?_⟩
  obtain ⟨y0, y1, y2, y3⟩ := w1.2 i hi
  refine ⟨?_, ?_, ?_, ?_⟩
  · rw [c0]
    exact (congrArg Int32.toInt (d0 i)).trans ((zi _ i).trans y0)
  · rw [c1]
    exact (congrArg Int32.toInt (d1 i)).trans ((zi _ i).trans y1)
  · rw [c2]
    exact (congrArg Int32.toInt (d2 i)).trans ((zi _ i).trans y2)
  · rw [c3]
    exact (congrArg Int32.toInt (d3 i)).trans ((zi _ i).trans y3)
-- how many a version has, by the class
section
variable {lv : List (Nat × Value)} {Q : Option Value → MH → Prop} {h0 h : MH} {H : Nat → Nat → Int}
theorem k_so {pa s : Nat} {v : Int} {sz : Nat → Nat} {xv : Int32} (M : RX h0 h H) (ok : pa_ok h0 pa) (es : H pa 11 = (s : Int)) (s40 : s ≤ 40) (Z : ∀ u : Nat, u ≤ s → H (h_r h0 pa 3) u = (sz u : Int)) (qv : xv.toInt = v) (g : ∀ x : Int32, x.toInt = (if 0 ≤ v ∧ v ≤ (s : Int) then (sz v.toNat : Int) else 0) → Q (some (.int x)) h) : HJ 84 0 (lv_args 0 [.ref pa, .int xv]) [] h Q := by
  obtain ⟨z1, z2, -, z4, -⟩ := ok.2.2.2.2.2.2.1 12 (by decide)
  have n12 : pa_n 12 = 41 := rfl
  have e12 : pa_w h0 pa 12 = h_r h0 pa 3 := rfl
  rw [e12] at z1 z2 z4
  refine r_sz0 M rfl rfl qv ok.1.2.1 ok.1.1 (k_has M ok.1.1 qv (fun xz hz => ?_))
  refine r_sz5 M rfl rfl qv rfl (fun c => by rcases hz with z | z <;> omega) ok.1.1 z1 (by omega) (fun x1 q1 c => g x1 ?_) (fun x2 q2 c => g x2 ?_)
  · rw [if_neg (by rcases hz with z | z <;> omega)]
    exact q1
  · have hv : 0 ≤ v ∧ v ≤ (s : Int) := by rcases hz with z | z <;> omega
    rw [if_pos hv, q2]
    exact Z v.toNat (by omega)
end
-- the reference's: a version in hand, walked
theorem sw_M {Y : RYt} {F : Nat → Int} {V V1 : Nat → Nat → Int} {G : Nat → Nat → Int64} {v : Int} (l : laid Y F V G) (v0 : 0 ≤ v) (v1 : v < (ry_v Y : Int)) (e24 : ∀ r, r < 6 → V1 24 r = V 36 (6 * v.toNat + r)) (oth : ∀ K, K ≠ 24 → V1 K = V K) : (p_sh (F 17) (V1 22) (V1 23) ∧ p_hp (F 17) (V1 22) (V1 24) ∧ F 17 ≤ 16000) ∧ rn_of F V1 (ry_s Y) ∧ hp6 (V1 24) (ry_h Y v) := by
  obtain ⟨⟨n, n40, o⟩, y, -, ⟨i1, i2, i3⟩, ⟨i4, i5⟩, ⟨i6, i7⟩, -⟩ := l
  have a : m_u F 19 0 17 = (ps_n (ry_s Y) : Int) := y.1.1
  have a35 : m_u F 19 0 35 = (ry_v Y : Int) := y.2.2.1
  rw [m_uN _ _ _ _ (by decide)] at a a35
  refine ⟨⟨by rw [oth 22 (by decide), oth 23 (by decide)]; exact i1, fun r hr => ?_, by omega⟩, ⟨a, fun u hu => ?_⟩, fun r hr => ?_⟩
  · rw [oth 22 (by decide), e24 r hr]
    exact i3 v.toNat r (by omega) hr
  · rw [oth 20 (by decide), oth 21 (by decide), oth 22 (by decide), oth 23 (by decide)]
    exact y.1.2.2.2 u hu
  · rw [e24 r hr]
    exact y.2.2.2.1 (6 * v.toNat + r) (by show 6 * v.toNat + r < 6 * ry_v Y; omega)
section
variable {lv : List (Nat × Value)} {Q : Option Value → MH → Prop} {W : List (Nat × Nat)} {ρ : Nat → Nat} {m : Nat} {A : Nat → Nat} {h0 h : MH} {F : Nat → Int} {V : Nat → Nat → Int} {G : Nat → Nat → Int64}
theorem c_swW {Y : RYt} {G1 : Nat → Nat → Int64} {V1 : Nat → Nat → Int} {v : Int} (M : MX 49 W ρ m A h0 h F V G) (b0_ : m_lk lv 0 = some (.ref m)) (hw : d_sub g_wk W = true) (l : laid Y F V1 G1) (v0 : 0 ≤ v) (v1 : v < (ry_v Y : Int)) (e24 : ∀ r, r < 6 → V 24 r = V1 36 (6 * v.toNat + r)) (oth : ∀ K, K ≠ 24 → V K = V1 K) (g : ∀ (h' : MH) (F' : Nat → Int) (V' : Nat → Nat → Int), MX 49 W ρ m A h0 h' F' V' G → w_I F V F' V' → F' 26 = ((wk_all (ry_s Y) (ry_h Y v)).1 : Int) → w_X (F 17) (V 22) (V' 27) (V' 29) (V' 28) (wk_all (ry_s Y) (ry_h Y v)).1 → wk_of V' (wk_all (ry_s Y) (ry_h Y v)).1 (wk_all (ry_s Y) (ry_h Y v)) → rn_of F' V' (ry_s Y) → Q none h') : HJ 219 0 lv [] h Q := by
  obtain ⟨⟨s1, s2, s3⟩, rn, h6⟩ := sw_M (V1 := V) l v0 v1 e24 oth
  refine c_walkAll M b0_ hw s1 s2 s3 (fun h' F' V' M' I fw X WO => ?_)
  have wo := WO _ _ rn h6
  have e := wo.1
  rw [← e] at fw X wo
  exact g h' F' V' M' I fw X wo (rn_ofV rn (I.1 17 (by decide)) (I.2 20 (by decide)) (I.2 21 (by decide)) (I.2 22 (by decide)) (I.2 23 (by decide)))
end
-- the reference's, sorted
section
variable {lv : List (Nat × Value)} {Q : Option Value → MH → Prop} {W : List (Nat × Nat)} {ρ : Nat → Nat} {m : Nat} {A : Nat → Nat} {h0 h : MH} {F : Nat → Int} {V : Nat → Nat → Int} {G : Nat → Nat → Int64}
theorem l_sb55 {i n : Nat} {w T0 K0 : Nat → Int} {t k : Int} {xi xt xk : Int32} {V0 : Nat → Nat → Int} (hw : d_sub [(78, 1001), (79, 1001), (49, 43)] W = true) (fo : F 43 = (i : Int)) (i62 : i ≤ 62) (hi : xi.toInt = (i : Int)) (qt : xt.toInt = t) (qk : xk.toInt = k) (t0 : 0 ≤ t) (t1 : t ≤ 127) (k0 : 0 ≤ k) (k1 : k ≤ 127) (wi : w i = 128 * k + t) (S : st_T T0 K0 w i) (g : ∀ (lv : List (Nat × Value)) (h : MH) (F' : Nat → Int) (V : Nat → Nat → Int) (xi' : Int32), MX 49 W ρ m A h0 h F' V G → F' = m_u F 43 (F 43 + 1) → (∀ K, K ≠ 44 → K ≠ 45 → V K = V0 K) → st_T (V 44) (V 45) w (i + 1) → xi'.toInt = (i : Int) + 1 → m_lk lv 0 = some (.ref m) → m_lk lv 2 = some (.int xi') → HJ 230 16 lv [] h Q) : ∀ (j : Nat) (lv : List (Nat × Value)) (h : MH) (V : Nat → Nat → Int) (xj : Int32), j ≤ i → MX 49 W ρ m A h0 h F V G → (∀ K, K ≠ 44 → K ≠ 45 → V K = V0 K) → (∀ q, q < j → V 44 q = T0 q ∧ V 45 q = K0 q) → (∀ q, j < q → q ≤ i → V 44 q = T0 (q - 1) ∧ V 45 q = K0 (q - 1)) → st_at (st_so w i) (w i) i = st_at (st_so w i) (w i) j → xj.toInt = (j : Int) → m_lk lv 0 = some (.ref m) → m_lk lv 2 = some (.int xi) → m_lk lv 3 = some (.int xt) → m_lk lv 4 = some (.int xk) → m_lk lv 5 = some (.int xj) → HJ 230 55 lv [] h Q := by
  have nx : ∀ {V V1 V2 : Nat → Nat → Int} {a b : Nat → Int}, (∀ K, K ≠ 44 → K ≠ 45 → V K = V0 K) → V1 = m_u V 44 a → V2 = m_u V1 45 b → ∀ K, K ≠ 44 → K ≠ 45 → V2 K = V0 K := fun vo p1 p2 K k1 k2 => by rw [p2, m_uN _ _ _ _ k2, p1, m_uN _ _ _ _ k1, vo K k1 k2]
  have up : ∀ {V V1 V2 : Nat → Nat → Int} {a b : Nat → Int}, V1 = m_u V 44 a → V2 = m_u V1 45 b → V2 44 = a ∧ V2 45 = b := fun p1 p2 => ⟨by rw [p2, m_uN _ _ _ _ (by decide), p1, m_uE], by rw [p2, m_uE]⟩
  have o45 : ∀ {V V1 : Nat → Nat → Int} {a : Nat → Int}, V1 = m_u V 44 a → V1 45 = V 45 := fun p1 => by rw [p1, m_uN _ _ _ _ (by decide)]
  intro j
  induction j with
  | zero =>
    intro lv h V xj hj M vo a b e qj e0 e2 e3 e4 e5
    refine s_sa55 M e0 e2 hi e3 qt e4 qk e5 qj (by omega) (by omega) (by omega) (by omega) (by omega) (by omega) (by omega) (by omega) hw (fun h1 V1 f1 h2 V2 f2 h6 F6 f6 x7 q7 lv7 M6 d0 d2 _ _ _ _ _ _ => ?_) (fun _ _ _ _ _ _ _ _ _ _ _ _ _ _ _ c => absurd c (by omega)) (fun _ _ _ _ _ _ _ _ _ _ _ _ _ _ _ _ _ _ c => absurd c (by omega)) (fun _ _ _ _ _ _ _ _ _ _ _ _ _ _ _ _ _ _ c => absurd c (by omega)) (fun _ _ _ _ _ _ _ _ _ _ _ _ _ _ _ c => absurd c (by omega))
    refine g lv7 h6 F6 V2 x7 M6 f6 (nx vo f1 f2) ?_ q7 d0 d2
    rw [(up f1 f2).1, (up f1 f2).2, o45 f1, Int.toNat_natCast]
    exact st_fin2 S (Nat.zero_le _) a b (e.trans rfl) t0 t1 k0 wi
  | succ j ih =>
    intro lv h V xj hj M vo a b e qj e0 e2 e3 e4 e5
    obtain ⟨⟨⟨z0, z1⟩, z2⟩, zw⟩ := S j (by omega)
    have et : (((j + 1 : Nat) : Int) - 1).toNat = j := by omega
    obtain ⟨eT, eK⟩ := a j (by omega)
    have stay : ∀ (h2 : MH) (V1 V2 : Nat → Nat → Int) (F6 : Nat → Int) (x7 : Int32) (lv7 : List (Nat × Value)), V1 = m_u V 44 (m_u (V 44) (((j + 1 : Nat) : Int)).toNat t) → V2 = m_u V1 45 (m_u (V1 45) (((j + 1 : Nat) : Int)).toNat k) → F6 = m_u F 43 (F 43 + 1) → MX 49 W ρ m A h0 h2 F6 V2 G → x7.toInt = (i : Int) + 1 → m_lk lv7 0 = some (.ref m) → m_lk lv7 2 = some (.int x7) → ¬ w i < st_so w i j → HJ 230 16 lv7 [] h2 Q := fun h2 V1 V2 F6 x7 lv7 f1 f2 f6 M6 q7 d0 d2 nl => by
      refine g lv7 h2 F6 V2 x7 M6 f6 (nx vo f1 f2) ?_ q7 d0 d2
      rw [(up f1 f2).1, (up f1 f2).2, o45 f1, Int.toNat_natCast]
      refine st_fin2 S hj a b (e.trans ?_) t0 t1 k0 wi
      rw [st_at, if_neg nl]
    have go : ∀ (h2 : MH) (V1 V2 : Nat → Nat → Int) (x7 : Int32) (lv7 : List (Nat × Value)), V1 = m_u V 44 (m_u (V 44) (((j + 1 : Nat) : Int)).toNat (V 44 (((j + 1 : Nat) : Int) - 1).toNat)) → V2 = m_u V1 45 (m_u (V1 45) (((j + 1 : Nat) : Int)).toNat (V 45 (((j + 1 : Nat) : Int) - 1).toNat)) → MX 49 W ρ m A h0 h2 F V2 G → x7.toInt = ((j + 1 : Nat) : Int) + (-1) → m_lk lv7 0 = some (.ref m) → m_lk lv7 2 = some (.int xi) → m_lk lv7 3 = some (.int xt) → m_lk lv7 4 = some (.int xk) → m_lk lv7 5 = some (.int x7) → w i < st_so w i j → HJ 230 55 lv7 [] h2 Q := fun h2 V1 V2 x7 lv7 f1 f2 M6 q7 d0 d2 d3 d4 d5 lt => by
      rw [et, eT, Int.toNat_natCast] at f1
      rw [et, eK, Int.toNat_natCast] at f2
      obtain ⟨u4, u5⟩ := up f1 f2
      rw [o45 f1] at u5
      refine ih lv7 h2 V2 x7 (by omega) M6 (nx vo f1 f2) (fun q hq => ?_) (fun q h1 h2 => ?_) (e.trans ?_) (by omega) d0 d2 d3 d4 d5
      · rw [u4, u5, m_uN _ _ _ _ (by omega), m_uN _ _ _ _ (by omega)]
        exact a q (by omega)
      · rw [u4, u5]
        by_cases c2 : q = j + 1
        · rw [c2, m_uE, m_uE]
          exact ⟨rfl, rfl⟩
        · rw [m_uN _ _ _ _ c2, m_uN _ _ _ _ c2]
          exact b q (by omega) h2
      · rw [st_at, if_pos lt]
    refine s_sa55 M e0 e2 hi e3 qt e4 qk e5 qj (by omega) (by omega) (by omega) (by omega) (by omega) (by omega) (by omega) (by omega) hw (fun _ _ _ _ _ _ _ _ _ _ _ _ _ _ _ _ _ _ c => absurd c (by omega)) (fun h1 V1 f1 h2 V2 f2 x7 q7 lv7 M6 d0 d2 d3 d4 d5 _ c => go h2 V1 V2 x7 lv7 f1 f2 M6 q7 d0 d2 d3 d4 d5 ?_) (fun h1 V1 f1 h2 V2 f2 h6 F6 f6 x7 q7 lv7 M6 d0 d2 _ _ _ _ c c2 _ _ => stay h6 V1 V2 F6 x7 lv7 f1 f2 f6 M6 q7 d0 d2 ?_) (fun h1 V1 f1 h2 V2 f2 h6 F6 f6 x7 q7 lv7 M6 d0 d2 _ _ _ _ c c2 c3 _ _ => stay h6 V1 V2 F6 x7 lv7 f1 f2 f6 M6 q7 d0 d2 ?_) (fun h1 V1 f1 h2 V2 f2 x7 q7 lv7 M6 d0 d2 d3 d4 d5 _ c c2 c3 => go h2 V1 V2 x7 lv7 f1 f2 M6 q7 d0 d2 d3 d4 d5 ?_)
    · rw [et, eK] at c
      omega
    · rw [et, eK] at c c2
      omega
    · rw [et, eK] at c c2
      rw [et, eT] at c3
      omega
    · rw [et, eK] at c c2
      rw [et, eT] at c3
      omega
theorem l_sb16 {n : Nat} {S : PSt} {O : WKt} {F0 : Nat → Int} {V0 : Nat → Nat → Int} (hw : d_sub [(78, 1001), (79, 1001), (49, 43)] W = true) (n63 : O.1 ≤ 63) (en : n = O.1) (fw0 : F0 26 = (O.1 : Int)) (wo : wk_of V0 O.1 O) (rn : rn_of F0 V0 S) (bo : ∀ i, i < O.1 → 0 ≤ O.2.1 i ∧ O.2.1 i < (ps_n S : Int)) (g : ∀ (h' : MH) (F' : Nat → Int) (V' : Nat → Nat → Int), MX 49 W ρ m A h0 h' F' V' G → F' 43 = (O.1 : Int) → (∀ K, K ≠ 43 → F' K = F0 K) → (∀ K, K ≠ 44 → K ≠ 45 → V' K = V0 K) → st_T (V' 44) (V' 45) (wt_ S O) O.1 → Q none h') : ∀ (d i : Nat) (lv : List (Nat × Value)) (h : MH) (F : Nat → Int) (V : Nat → Nat → Int) (xi : Int32), i + d = n → MX 49 W ρ m A h0 h F V G → F 43 = (i : Int) → (∀ K, K ≠ 43 → F K = F0 K) → (∀ K, K ≠ 44 → K ≠ 45 → V K = V0 K) → st_T (V 44) (V 45) (wt_ S O) i → xi.toInt = (i : Int) → m_lk lv 0 = some (.ref m) → m_lk lv 2 = some (.int xi) → HJ 230 16 lv [] h Q := by
  subst en
  intro d
  induction d with
  | zero =>
    intro i lv h F V xi hd M f43 fo vo T hi e0 e2
    have iw : i = O.1 := by omega
    subst iw
    have fw : F 26 = (O.1 : Int) := (fo 26 (by decide)).trans fw0
    exact s_sa16 M e0 e2 hi (by omega) (by omega) (fun _ _ _ => g h F V M f43 fo vo T) (fun _ _ _ _ _ _ _ _ _ _ _ _ _ _ c => absurd c (by omega))
  | succ d ih =>
    intro i lv h F V xi hd M f43 fo vo T hi e0 e2
    have fw : F 26 = (O.1 : Int) := (fo 26 (by decide)).trans fw0
    obtain ⟨y0, -, -⟩ := wo.2 i (by omega)
    have bi := bo i (by omega)
    have ri := rn.2 (O.2.1 i).toNat (by omega)
    refine s_sa16 M e0 e2 hi (by omega) (by omega) (fun _ _ c => absurd c (by omega)) (fun x3 q3 x6 q6 x8 q8 lv9 d0 d2 d3 d4 d5 _ _ c _ _ _ _ => ?_)
    rw [Int.toNat_natCast, vo 27 (by decide) (by decide), ← y0] at q3 q6
    rw [vo 20 (by decide) (by decide)] at q3
    rw [vo 21 (by decide) (by decide)] at q6
    obtain ⟨r1, r2, r3, r4, -⟩ := ri
    rw [← r1] at q3 r2
    rw [← r3] at q6 r4
    exact l_sb55 (n := O.1) (w := wt_ S O) (V0 := V0) hw f43 (by omega) hi q3 q6 r2.1 r2.2 r4.1 (by omega) rfl T (fun lv7 h6 F6 V2 x7 M6 f6 vo2 T2 q7 b0 b2 => ih (i + 1) lv7 h6 F6 V2 x7 (by omega) M6 (by rw [f6, m_uE, f43]; rfl) (fun K hK => by rw [f6, m_uN _ _ _ _ hK, fo K hK]) vo2 T2 (by omega) b0 b2) i lv9 h V x8 (Nat.le_refl _) M vo (fun _ _ => ⟨rfl, rfl⟩) (fun q h1 h2 => absurd h1 (by omega)) rfl (by omega) d0 d2 d3 d4 d5
theorem c_sortY {Y : RYt} {G1 : Nat → Nat → Int64} {v : Int} {xv : Int32} (M : MX 49 W ρ m A h0 h F V G) (hw : d_sub g_so W = true) (l : laid Y F V G1) (v0 : 0 ≤ v) (v1 : v < (ry_v Y : Int)) (qv : xv.toInt = v) (g : ∀ (h' : MH) (F' : Nat → Int) (V' : Nat → Nat → Int), MX 49 W ρ m A h0 h' F' V' G → F' 43 = ((wk_all (ry_s Y) (ry_h Y v)).1 : Int) → (∀ K, K ≠ 26 → K ≠ 43 → F' K = F K) → (∀ K, K < 24 ∨ (31 < K ∧ K ≠ 44 ∧ K ≠ 45) → V' K = V K) → wk_of V' (wk_all (ry_s Y) (ry_h Y v)).1 (wk_all (ry_s Y) (ry_h Y v)) → F' 26 = ((wk_all (ry_s Y) (ry_h Y v)).1 : Int) → rn_of F' V' (ry_s Y) → st_T (V' 44) (V' 45) (wt_ (ry_s Y) (wk_all (ry_s Y) (ry_h Y v))) (wk_all (ry_s Y) (ry_h Y v)).1 → Q none h') : HJ 230 0 (lv_args 0 [.ref m, .int xv]) [] h Q := by
  have w1 : d_sub [(61, 1001)] W = true := d_subm hw (by decide +kernel)
  have w2 : d_sub g_wk W = true := d_subm hw (by decide +kernel)
  have w3 : d_sub [(78, 1001), (79, 1001), (49, 43)] W = true := d_subm hw (by decide +kernel)
  have w4 : d_sub [(49, 43)] W = true := d_subm hw (by decide +kernel)
  have lv := laid_v l
  obtain ⟨⟨n, n40, o⟩, -⟩ := id l
  have wi := wk_allI (S := ry_s Y) (f := ry_h Y v) o.1.1 (by rw [ry_hv v0]; exact o.1.2 v.toNat (by omega))
  have w63 := p_wsL (f := ry_h Y v) 6
  have e64 : (2 : Nat) ^ 6 = 64 := by decide
  rw [e64] at w63
  refine s_sa0 M rfl rfl qv (c_hand (v := v.toNat) M (by omega) (by omega) w1 (fun h2 V2 M2 k1 k2 => ?_))
  refine s_sa5 M2 rfl ?_
  refine c_swW (lv := lv_args 0 [.ref m]) M2 rfl w2 l v0 v1 k1 k2 (fun h3 F3 V3 M3 J fw X wo rn => ?_)
  refine s_sa9 M3 rfl w4 (fun h4 F4 f4 x3 q3 lv4 M4 e0 e2 => ?_)
  have f26 : F4 26 = ((wk_all (ry_s Y) (ry_h Y v)).1 : Int) := by rw [f4, m_uN _ _ _ _ (by decide)]; exact fw
  refine l_sb16 (F0 := F4) (V0 := V3) (S := ry_s Y) (O := wk_all (ry_s Y) (ry_h Y v)) w3 (by omega) rfl f26 wo (rn_ofV rn (by rw [f4, m_uN _ _ _ _ (by decide)]) rfl rfl rfl rfl) (fun i hi => (wi.1 i hi).1) (fun h5 F5 V5 M5 f43 fo vo T => g h5 F5 V5 M5 f43 (fun K k3 k4 => (fo K k4).trans (by rw [f4, m_uN _ _ _ _ k4, J.1 K k3])) (fun K hK => by rw [vo K (by omega) (by omega), J.2 K (by omega), k2 K (by omega)]) (wk_ofC wo (vo 27 (by decide) (by decide)) (vo 29 (by decide) (by decide)) (vo 28 (by decide) (by decide))) ((fo 26 (by decide)).trans f26) (rn_ofV rn ((fo 17 (by decide)).trans (by rw [f4, m_uN _ _ _ _ (by decide)])) (vo 20 (by decide) (by decide)) (vo 21 (by decide) (by decide)) (vo 22 (by decide) (by decide)) (vo 23 (by decide) (by decide))) T) (wk_all (ry_s Y) (ry_h Y v)).1 0 lv4 h4 F4 V3 x3 (by omega) M4 (by rw [f4, m_uE]; rfl) (fun _ _ => rfl) (fun _ _ _ => rfl) (fun j hj => absurd hj (Nat.not_lt_zero j)) q3 e0 e2
end
-- depth, both sides
def wd_l (S : PSt) (O : WKt) (t : Int) : Nat → Int
  | 0 => -1
  | i + 1 => if ps_t S (O.2.1 i).toNat = t ∧ (wd_l S O t i = -1 ∨ O.2.2.2 i < wd_l S O t i) then O.2.2.2 i else wd_l S O t i
def dp_in (Y : RYt) (row : Prop) (v : Int) : Prop := row ∧ 0 ≤ v ∧ v < (ry_v Y : Int)
def dp_q (Y : RYt) (row : Prop) (v t z : Int) : Prop := (¬ dp_in Y row v ∧ z = -1) ∨ (dp_in Y row v ∧ z = wd_l (ry_s Y) (wk_all (ry_s Y) (ry_h Y v)) t (wk_all (ry_s Y) (ry_h Y v)).1)
theorem dp_eq {Y : RYt} {row row' : Prop} {v t y z : Int} (er : row ↔ row') (a : dp_q Y row v t z) (b : dp_q Y row' v t y) : y = z := by
  rcases a with ⟨a1, a2⟩ | ⟨a1, a2⟩
  · rcases b with ⟨-, b2⟩ | ⟨b1, -⟩
    · rw [a2, b2]
    · exact absurd ⟨er.mpr b1.1, b1.2⟩ a1
  · rcases b with ⟨b1, -⟩ | ⟨-, b2⟩
    · exact absurd ⟨er.mp a1.1, a1.2⟩ b1
    · rw [a2, b2]
section
variable {lv : List (Nat × Value)} {Q : Option Value → MH → Prop} {h0 h : MH} {H : Nat → Nat → Int}
theorem r_le0 {wa : Nat} {t : Int} (M : RX h0 h H) (e0 : m_lk lv 0 = some (.ref wa)) {lx1 : Int32} (e1 : m_lk lv 1 = some (.int lx1)) (lq1 : lx1.toInt = t) 
    (g0 : ∀ x1 : Int32, x1.toInt = (-1) → ∀ x3 : Int32, x3.toInt = 0 → ∀ lv4 : List (Nat × Value), m_lk lv4 0 = some (.ref wa) → m_lk lv4 1 = some (.int lx1) → m_lk lv4 2 = some (.int x1) → m_lk lv4 3 = some (.int x3) → HJ 111 4 lv4 [] h Q)
    : HJ 111 0 lv [] h Q := by
  refine hM_ic (n := (-1)) rfl (by decide) rfl (fun x1 q1 => ?_) -- 0
  refine hM_si (k := 2) rfl (by decide +kernel) rfl (fun lv2 e2_2 u2 => ?_) -- 1
  have e2_0 := u2 0 _ (by decide) (Or.inl rfl) e0
  have e2_1 := u2 1 _ (by decide) (Or.inl rfl) e1
  refine hM_ic (n := 0) rfl (by decide) rfl (fun x3 q3 => ?_) -- 2
  refine hM_si (k := 3) rfl (by decide +kernel) rfl (fun lv4 e4_3 u4 => ?_) -- 3
  have e4_0 := u4 0 _ (by decide) (Or.inl rfl) e2_0
  have e4_1 := u4 1 _ (by decide) (Or.inl rfl) e2_1
  have e4_2 := u4 2 _ (by decide) (Or.inl rfl) e2_2
  exact g0 x1 q1 x3 q3 lv4 e4_0 e4_1 e4_2 e4_3
theorem r_le4 {wa : Nat} {t e i : Int} (M : RX h0 h H) (e0 : m_lk lv 0 = some (.ref wa)) {lx1 : Int32} (e1 : m_lk lv 1 = some (.int lx1)) (lq1 : lx1.toInt = t) {lx2 : Int32} (e2 : m_lk lv 2 = some (.int lx2)) (lq2 : lx2.toInt = e) {lx3 : Int32} (e3 : m_lk lv 3 = some (.int lx3)) (lq3 : lx3.toInt = i) (i0 : 0 ≤ i) (w63 : H wa 8 ≤ 63) (hk0 : (h_k h0 wa).1 = 8) (ha0 : (h_k h0 (h_r h0 wa 1)).1 = 20) (hl0 : 63 ≤ ((h_k h0 (h_r h0 wa 1)).2 : Int))
    (g0 : i ≥ H wa 8 → Q (some (.int lx2)) h)
    (g1 : ∀ x2 : Int32, x2.toInt = H (h_r h0 wa 1) (i).toNat → i < H wa 8 → HJ 77 0 (lv_args 0 [.int x2]) [] h (fun v h' => HJ 111 21 lv (v.toList ++ []) h' Q))
    : HJ 111 4 lv [] h Q := by
  refine hI_il (k := 3) rfl e3 rfl ?_ -- 4
  refine hI_al (k := 0) rfl e0 rfl ?_ -- 5
  refine hR_gi (c := 7) (k := 8) M hk0 rfl rfl rfl rfl (fun x1 q1 => ?_) -- 6
  have gb1 : -2147483648 ≤ H wa 8 ∧ H wa 8 ≤ 2147483647 := by rw [← q1]; exact g_iT _
  refine hM_cge (off := 44) (t := 53) rfl lq3 q1 (by decide) rfl (fun c9 => ?_) (fun c9 => ?_) -- 9
  · refine hI_il (k := 2) rfl e2 rfl ?_ -- 53
    refine hI_ri rfl rfl ?_ -- 54
    exact g0 c9
  · refine hI_al (k := 0) rfl e0 rfl ?_ -- 12
    refine hR_gr (c := 7) (k := 1) M hk0 rfl rfl rfl rfl ?_ -- 13
    refine hI_il (k := 3) rfl e3 rfl ?_ -- 16
    refine hR_ia M ha0 lq3 (by omega) (by omega) rfl rfl (fun x2 q2 => ?_) -- 17
    have gb2 : -2147483648 ≤ H (h_r h0 wa 1) (i).toNat ∧ H (h_r h0 wa 1) (i).toNat ≤ 2147483647 := by rw [← q2]; exact g_iT _
    refine hM_is0 (as := [.int x2]) (r := []) rfl rfl (by decide +kernel) rfl rfl rfl rfl rfl ?_ -- 18
    exact g1 x2 q2 c9
theorem r_le21 {wa : Nat} {t e i z : Int} (M : RX h0 h H) (e0 : m_lk lv 0 = some (.ref wa)) {lx1 : Int32} (e1 : m_lk lv 1 = some (.int lx1)) (lq1 : lx1.toInt = t) {lx2 : Int32} (e2 : m_lk lv 2 = some (.int lx2)) (lq2 : lx2.toInt = e) {lx3 : Int32} (e3 : m_lk lv 3 = some (.int lx3)) (lq3 : lx3.toInt = i) {sx0 : Int32} (sq0 : sx0.toInt = z) (i0 : 0 ≤ i) (i1 : i ≤ 62) (hk0 : (h_k h0 wa).1 = 8) (ha0 : (h_k h0 (h_r h0 wa 3)).1 = 20) (hl0 : 63 ≤ ((h_k h0 (h_r h0 wa 3)).2 : Int))
    (g0 : ∀ x1 : Int32, x1.toInt = i + 1 → ∀ lv1 : List (Nat × Value), m_lk lv1 0 = some (.ref wa) → m_lk lv1 1 = some (.int lx1) → m_lk lv1 2 = some (.int lx2) → m_lk lv1 3 = some (.int x1) → z ≠ t → HJ 111 4 lv1 [] h Q)
    (g1 : ∀ x3 : Int32, x3.toInt = H (h_r h0 wa 3) (i).toNat → ∀ x5 : Int32, x5.toInt = i + 1 → ∀ lv5 : List (Nat × Value), m_lk lv5 0 = some (.ref wa) → m_lk lv5 1 = some (.int lx1) → m_lk lv5 2 = some (.int x3) → m_lk lv5 3 = some (.int x5) → z = t → e = (-1) → HJ 111 4 lv5 [] h Q)
    (g2 : ∀ x7 : Int32, x7.toInt = i + 1 → ∀ lv7 : List (Nat × Value), m_lk lv7 0 = some (.ref wa) → m_lk lv7 1 = some (.int lx1) → m_lk lv7 2 = some (.int lx2) → m_lk lv7 3 = some (.int x7) → z = t → e ≠ (-1) → H (h_r h0 wa 3) (i).toNat ≥ e → HJ 111 4 lv7 [] h Q)
    (g3 : ∀ x8 : Int32, x8.toInt = H (h_r h0 wa 3) (i).toNat → ∀ x10 : Int32, x10.toInt = i + 1 → ∀ lv10 : List (Nat × Value), m_lk lv10 0 = some (.ref wa) → m_lk lv10 1 = some (.int lx1) → m_lk lv10 2 = some (.int x8) → m_lk lv10 3 = some (.int x10) → z = t → e ≠ (-1) → H (h_r h0 wa 3) (i).toNat < e → HJ 111 4 lv10 [] h Q)
    : HJ 111 21 lv [.int sx0] h Q := by
  refine hI_il (k := 1) rfl e1 rfl ?_ -- 21
  refine hM_cne (off := 25) (t := 47) rfl sq0 lq1 (by decide) rfl (fun c22 => ?_) (fun c22 => ?_) -- 22
  · refine hM_inc (k := 3) (z := 1) rfl e3 lq3 (by decide) (by omega) (by omega) (by decide +kernel) rfl (fun lv1 x1 q1 e1_3 u1 => ?_) -- 47
    have e1_0 := u1 0 _ (by decide) (Or.inl rfl) e0
    have e1_1 := u1 1 _ (by decide) (Or.inl rfl) e1
    have e1_2 := u1 2 _ (by decide) (Or.inl rfl) e2
    refine hI_go (pc' := 4) (off := (-46)) rfl (by decide) ?_ -- 50
    exact g0 x1 q1 lv1 e1_0 e1_1 e1_2 e1_3 c22
  · refine hI_il (k := 2) rfl e2 rfl ?_ -- 25
    refine hM_ic (n := (-1)) rfl (by decide) rfl (fun x2 q2 => ?_) -- 26
    refine hM_ceq (off := 13) (t := 40) rfl lq2 q2 (by decide) rfl (fun c27 => ?_) (fun c27 => ?_) -- 27
    · refine hI_al (k := 0) rfl e0 rfl ?_ -- 40
      refine hR_gr (c := 7) (k := 3) M hk0 rfl rfl rfl rfl ?_ -- 41
      refine hI_il (k := 3) rfl e3 rfl ?_ -- 44
      refine hR_ia M ha0 lq3 (by omega) (by omega) rfl rfl (fun x3 q3 => ?_) -- 45
      have gb3 : -2147483648 ≤ H (h_r h0 wa 3) (i).toNat ∧ H (h_r h0 wa 3) (i).toNat ≤ 2147483647 := by rw [← q3]; exact g_iT _
      refine hM_si (k := 2) rfl (by decide +kernel) rfl (fun lv4 e4_2 u4 => ?_) -- 46
      have e4_0 := u4 0 _ (by decide) (Or.inl rfl) e0
      have e4_1 := u4 1 _ (by decide) (Or.inl rfl) e1
      have e4_3 := u4 3 _ (by decide) (Or.inl rfl) e3
      refine hM_inc (k := 3) (z := 1) rfl e4_3 lq3 (by decide) (by omega) (by omega) (by decide +kernel) rfl (fun lv5 x5 q5 e5_3 u5 => ?_) -- 47
      have e5_0 := u5 0 _ (by decide) (Or.inl rfl) e4_0
      have e5_1 := u5 1 _ (by decide) (Or.inl rfl) e4_1
      have e5_2 := u5 2 _ (by decide) (Or.inl rfl) e4_2
      refine hI_go (pc' := 4) (off := (-46)) rfl (by decide) ?_ -- 50
      exact g1 x3 q3 x5 q5 lv5 e5_0 e5_1 e5_2 e5_3 c22 c27
    · refine hI_al (k := 0) rfl e0 rfl ?_ -- 30
      refine hR_gr (c := 7) (k := 3) M hk0 rfl rfl rfl rfl ?_ -- 31
      refine hI_il (k := 3) rfl e3 rfl ?_ -- 34
      refine hR_ia M ha0 lq3 (by omega) (by omega) rfl rfl (fun x6 q6 => ?_) -- 35
      have gb6 : -2147483648 ≤ H (h_r h0 wa 3) (i).toNat ∧ H (h_r h0 wa 3) (i).toNat ≤ 2147483647 := by rw [← q6]; exact g_iT _
      refine hI_il (k := 2) rfl e2 rfl ?_ -- 36
      refine hM_cge (off := 10) (t := 47) rfl q6 lq2 (by decide) rfl (fun c37 => ?_) (fun c37 => ?_) -- 37
      · refine hM_inc (k := 3) (z := 1) rfl e3 lq3 (by decide) (by omega) (by omega) (by decide +kernel) rfl (fun lv7 x7 q7 e7_3 u7 => ?_) -- 47
        have e7_0 := u7 0 _ (by decide) (Or.inl rfl) e0
        have e7_1 := u7 1 _ (by decide) (Or.inl rfl) e1
        have e7_2 := u7 2 _ (by decide) (Or.inl rfl) e2
        refine hI_go (pc' := 4) (off := (-46)) rfl (by decide) ?_ -- 50
        exact g2 x7 q7 lv7 e7_0 e7_1 e7_2 e7_3 c22 c27 c37
      · refine hI_al (k := 0) rfl e0 rfl ?_ -- 40
        refine hR_gr (c := 7) (k := 3) M hk0 rfl rfl rfl rfl ?_ -- 41
        refine hI_il (k := 3) rfl e3 rfl ?_ -- 44
        refine hR_ia M ha0 lq3 (by omega) (by omega) rfl rfl (fun x8 q8 => ?_) -- 45
        have gb8 : -2147483648 ≤ H (h_r h0 wa 3) (i).toNat ∧ H (h_r h0 wa 3) (i).toNat ≤ 2147483647 := by rw [← q8]; exact g_iT _
        refine hM_si (k := 2) rfl (by decide +kernel) rfl (fun lv9 e9_2 u9 => ?_) -- 46
        have e9_0 := u9 0 _ (by decide) (Or.inl rfl) e0
        have e9_1 := u9 1 _ (by decide) (Or.inl rfl) e1
        have e9_3 := u9 3 _ (by decide) (Or.inl rfl) e3
        refine hM_inc (k := 3) (z := 1) rfl e9_3 lq3 (by decide) (by omega) (by omega) (by decide +kernel) rfl (fun lv10 x10 q10 e10_3 u10 => ?_) -- 47
        have e10_0 := u10 0 _ (by decide) (Or.inl rfl) e9_0
        have e10_1 := u10 1 _ (by decide) (Or.inl rfl) e9_1
        have e10_2 := u10 2 _ (by decide) (Or.inl rfl) e9_2
        refine hI_go (pc' := 4) (off := (-46)) rfl (by decide) ?_ -- 50
        exact g3 x8 q8 x10 q10 lv10 e10_0 e10_1 e10_2 e10_3 c22 c27 c37
theorem l_led {wa : Nat} {S : PSt} {O : WKt} {t : Int} {xt : Int32} (M : RX h0 h H) (ok : wl_ok h0 wa) (wo : wl_of h0 H wa S O) (n63 : O.1 ≤ 63) (st : ∀ i, i < O.1 → (0 ≤ ps_t S (O.2.1 i).toNat ∧ ps_t S (O.2.1 i).toNat ≤ 127) ∧ 0 ≤ ps_y S (O.2.1 i).toNat) (qt : xt.toInt = t) (g : ∀ x : Int32, x.toInt = wd_l S O t O.1 → Q (some (.int x)) h) : ∀ (d i : Nat) (lv : List (Nat × Value)) (xe xi : Int32), i + d = O.1 → xe.toInt = wd_l S O t i → xi.toInt = (i : Int) → m_lk lv 0 = some (.ref wa) → m_lk lv 1 = some (.int xt) → m_lk lv 2 = some (.int xe) → m_lk lv 3 = some (.int xi) → HJ 111 4 lv [] h Q := by
  have w8 := wo.1
  obtain ⟨k1, -, -, l1⟩ := ok.2.1 1 (by decide)
  obtain ⟨k3, -, -, l3⟩ := ok.2.1 3 (by decide)
  intro d
  induction d with
  | zero =>
    intro i lv xe xi hd qe qi e0 e1 e2 e3
    have ei : i = O.1 := by omega
    subst ei
    exact r_le4 M e0 e1 qt e2 qe e3 qi (by omega) (by omega) ok.1.1 k1 l1 (fun _ => g xe qe) (fun _ _ c => absurd c (by omega))
  | succ d ih =>
    intro i lv xe xi hd qe qi e0 e1 e2 e3
    obtain ⟨y0, y1, y2, y3⟩ := wo.2 i (by omega)
    obtain ⟨⟨t0, t1⟩, yy⟩ := st i (by omega)
    refine r_le4 M e0 e1 qt e2 qe e3 qi (by omega) (by omega) ok.1.1 k1 l1 (fun c => absurd c (by omega)) (fun x2 q2 c => ?_)
    rw [Int.toNat_natCast] at q2
    refine k_thIn (q2.trans y1) t0 t1 yy (fun w qw => ?_)
    show HJ 111 21 lv [.int w] h Q
    refine r_le21 M e0 e1 qt e2 qe e3 qi qw (by omega) (by omega) ok.1.1 k3 l3 (fun x q lv1 a0 a1 a2 a3 c => ?_) (fun x3 q3 x q lv1 a0 a1 a2 a3 c c2 => ?_) (fun x q lv1 a0 a1 a2 a3 c c2 c3 => ?_) (fun x3 q3 x q lv1 a0 a1 a2 a3 c c2 c3 => ?_)
    · refine ih (i + 1) lv1 xe x (by omega) ?_ (by omega) a0 a1 a2 a3
      rw [wd_l, if_neg (fun y => c y.1)]
      exact qe
    · rw [Int.toNat_natCast] at q3
      refine ih (i + 1) lv1 x3 x (by omega) ?_ (by omega) a0 a1 a2 a3
      rw [wd_l, if_pos ⟨c, Or.inl c2⟩]
      exact q3.trans y3
    · rw [Int.toNat_natCast, y3] at c3
      refine ih (i + 1) lv1 xe x (by omega) ?_ (by omega) a0 a1 a2 a3
      rw [wd_l, if_neg (fun y => by
        rcases y.2 with z | z
        · exact c2 z
        · omega)]
      exact qe
    · rw [Int.toNat_natCast] at q3 c3
      rw [y3] at c3
      refine ih (i + 1) lv1 x3 x (by omega) ?_ (by omega) a0 a1 a2 a3
      rw [wd_l, if_pos ⟨c, Or.inr c3⟩]
      exact q3.trans y3
theorem k_led {wa : Nat} {S : PSt} {O : WKt} {t : Int} {xt : Int32} (M : RX h0 h H) (ok : wl_ok h0 wa) (wo : wl_of h0 H wa S O) (n63 : O.1 ≤ 63) (st : ∀ i, i < O.1 → (0 ≤ ps_t S (O.2.1 i).toNat ∧ ps_t S (O.2.1 i).toNat ≤ 127) ∧ 0 ≤ ps_y S (O.2.1 i).toNat) (qt : xt.toInt = t) (g : ∀ x : Int32, x.toInt = wd_l S O t O.1 → Q (some (.int x)) h) : HJ 111 0 (lv_args 0 [.ref wa, .int xt]) [] h Q :=
  r_le0 M rfl rfl qt (fun x1 q1 x3 q3 lv4 a0 a1 a2 a3 => l_led M ok wo n63 st qt g O.1 0 lv4 x1 x3 (by omega) q1 q3 a0 a1 a2 a3)
end
section
variable {lv : List (Nat × Value)} {Q : Option Value → MH → Prop} {W : List (Nat × Nat)} {ρ : Nat → Nat} {m : Nat} {A : Nat → Nat} {h0 h : MH} {F : Nat → Int} {V : Nat → Nat → Int} {G : Nat → Nat → Int64}
theorem s_dp0 {r v t : Int} (M : MX 49 W ρ m A h0 h F V G) (e0 : m_lk lv 0 = some (.ref m)) {lx1 : Int32} (e1 : m_lk lv 1 = some (.int lx1)) (lq1 : lx1.toInt = r) {lx2 : Int32} (e2 : m_lk lv 2 = some (.int lx2)) (lq2 : lx2.toInt = v) {lx3 : Int32} (e3 : m_lk lv 3 = some (.int lx3)) (lq3 : lx3.toInt = t) (hw : d_sub [(49, 0)] W = true)
    (g0 : ∀ h2 : MH, ∀ F2 : Nat → Int, F2 = m_u F 0 (0) → MX 49 W ρ m A h0 h2 F2 V G → HJ 228 0 (lv_args 0 [.ref m, .int lx1, .int lx2]) [] h2 (fun v h' => HJ 238 11 lv (v.toList ++ []) h' Q))
    : HJ 238 0 lv [] h Q := by
  refine hI_al (k := 0) rfl e0 rfl ?_ -- 0
  refine hM_ic (n := 0) rfl (by decide) rfl (fun x1 q1 => ?_) -- 1
  refine hM_pi M (by decide) ok_49 rfl rfl (k := 0) (c := 9) (lo := (-2147483648)) (hi := 2147483647) rfl rfl ⟨by decide, by decide +kernel, rfl⟩ rfl (d_subm hw (by decide +kernel)) q1 (by omega) (by omega) rfl (fun h2 F2 f2 M2 => ?_) -- 2
  refine hI_al (k := 0) rfl e0 rfl ?_ -- 5
  refine hI_il (k := 1) rfl e1 rfl ?_ -- 6
  refine hI_il (k := 2) rfl e2 rfl ?_ -- 7
  refine hM_iv M2 (by decide) rfl rfl (by decide) (as := [.int lx1, .int lx2]) (r := []) rfl rfl (by decide +kernel) rfl (by decide +kernel) rfl rfl rfl rfl rfl ?_ -- 8
  exact g0 h2 F2 f2 M2
theorem s_dp11 {r v t z : Int} (M : MX 49 W ρ m A h0 h F V G) (e0 : m_lk lv 0 = some (.ref m)) {lx1 : Int32} (e1 : m_lk lv 1 = some (.int lx1)) (lq1 : lx1.toInt = r) {lx2 : Int32} (e2 : m_lk lv 2 = some (.int lx2)) (lq2 : lx2.toInt = v) {lx3 : Int32} (e3 : m_lk lv 3 = some (.int lx3)) (lq3 : lx3.toInt = t) {sx0 : Int32} (sq0 : sx0.toInt = z) 
    (g0 : z ≠ 0 → HJ 208 0 (lv_args 0 [.ref m, .int lx2]) [] h (fun v h' => HJ 238 21 lv (v.toList ++ []) h' Q))
    (g1 : ∀ x1 : Int32, x1.toInt = (-1) → z = 0 → Q (some (.int x1)) h)
    : HJ 238 11 lv [.int sx0] h Q := by
  refine hM_zne (off := 5) (t := 16) rfl sq0 (by decide) rfl (fun c11 => ?_) (fun c11 => ?_) -- 11
  · refine hI_al (k := 0) rfl e0 rfl ?_ -- 16
    refine hI_il (k := 2) rfl e2 rfl ?_ -- 17
    refine hM_iv M (by decide) rfl rfl (by decide) (as := [.int lx2]) (r := []) rfl rfl (by decide +kernel) rfl (by decide +kernel) rfl rfl rfl rfl rfl ?_ -- 18
    exact g0 c11
  · refine hM_ic (n := (-1)) rfl (by decide) rfl (fun x1 q1 => ?_) -- 14
    refine hI_ri rfl rfl ?_ -- 15
    exact g1 x1 q1 c11
theorem s_dp21 {r v t : Int} (M : MX 49 W ρ m A h0 h F V G) (e0 : m_lk lv 0 = some (.ref m)) {lx1 : Int32} (e1 : m_lk lv 1 = some (.int lx1)) (lq1 : lx1.toInt = r) {lx2 : Int32} (e2 : m_lk lv 2 = some (.int lx2)) (lq2 : lx2.toInt = v) {lx3 : Int32} (e3 : m_lk lv 3 = some (.int lx3)) (lq3 : lx3.toInt = t) 
    (g0 : HJ 219 0 (lv_args 0 [.ref m]) [] h (fun v h' => HJ 238 25 lv (v.toList ++ []) h' Q))
    : HJ 238 21 lv [] h Q := by
  refine hI_al (k := 0) rfl e0 rfl ?_ -- 21
  refine hM_iv M (by decide) rfl rfl (by decide) (as := []) (r := []) rfl rfl (by decide +kernel) rfl (by decide +kernel) rfl rfl rfl rfl rfl ?_ -- 22
  exact g0 
theorem s_dp25 {t : Int} (M : MX 49 W ρ m A h0 h F V G) (e0 : m_lk lv 0 = some (.ref m)) {lx3 : Int32} (e3 : m_lk lv 3 = some (.int lx3)) (lq3 : lx3.toInt = t) 
    (g0 : ∀ x1 : Int32, x1.toInt = (-1) → ∀ x3 : Int32, x3.toInt = 0 → ∀ lv4 : List (Nat × Value), m_lk lv4 0 = some (.ref m) → m_lk lv4 3 = some (.int lx3) → m_lk lv4 4 = some (.int x1) → m_lk lv4 5 = some (.int x3) → HJ 238 31 lv4 [] h Q)
    : HJ 238 25 lv [] h Q := by
  refine hM_ic (n := (-1)) rfl (by decide) rfl (fun x1 q1 => ?_) -- 25
  refine hM_si2 (k := 4) rfl (by decide +kernel) rfl (fun lv2 e2_4 u2 => ?_) -- 26
  have e2_0 := u2 0 _ (by decide) (Or.inl rfl) e0
  have e2_3 := u2 3 _ (by decide) (Or.inl rfl) e3
  refine hM_ic (n := 0) rfl (by decide) rfl (fun x3 q3 => ?_) -- 28
  refine hM_si2 (k := 5) rfl (by decide +kernel) rfl (fun lv4 e4_5 u4 => ?_) -- 29
  have e4_0 := u4 0 _ (by decide) (Or.inl rfl) e2_0
  have e4_3 := u4 3 _ (by decide) (Or.inl rfl) e2_3
  have e4_4 := u4 4 _ (by decide) (Or.inl rfl) e2_4
  exact g0 x1 q1 x3 q3 lv4 e4_0 e4_3 e4_4 e4_5
theorem s_dp31 {t e i : Int} (M : MX 49 W ρ m A h0 h F V G) (e0 : m_lk lv 0 = some (.ref m)) {lx3 : Int32} (e3 : m_lk lv 3 = some (.int lx3)) (lq3 : lx3.toInt = t) {lx4 : Int32} (e4 : m_lk lv 4 = some (.int lx4)) (lq4 : lx4.toInt = e) {lx5 : Int32} (e5 : m_lk lv 5 = some (.int lx5)) (lq5 : lx5.toInt = i) (i0 : 0 ≤ i) (w63 : F 26 ≤ 63) (a0 : i < F 26 → 0 ≤ V 27 (i).toNat ∧ V 27 (i).toNat ≤ 15999)
    (g0 : 0 ≤ F 26 → F 26 ≤ 63 → i ≥ F 26 → Q (some (.int lx4)) h)
    (g1 : ∀ x5 : Int32, x5.toInt = i + 1 → ∀ lv5 : List (Nat × Value), m_lk lv5 0 = some (.ref m) → m_lk lv5 3 = some (.int lx3) → m_lk lv5 4 = some (.int lx4) → m_lk lv5 5 = some (.int x5) → 0 ≤ F 26 → F 26 ≤ 63 → i < F 26 → 0 ≤ V 27 (i).toNat → V 27 (i).toNat ≤ 15999 → V 20 (V 27 (i).toNat).toNat ≠ t → HJ 238 31 lv5 [] h Q)
    (g2 : ∀ x7 : Int32, x7.toInt = V 28 (i).toNat → ∀ x9 : Int32, x9.toInt = i + 1 → ∀ lv9 : List (Nat × Value), m_lk lv9 0 = some (.ref m) → m_lk lv9 3 = some (.int lx3) → m_lk lv9 4 = some (.int x7) → m_lk lv9 5 = some (.int x9) → 0 ≤ F 26 → F 26 ≤ 63 → i < F 26 → 0 ≤ V 27 (i).toNat → V 27 (i).toNat ≤ 15999 → V 20 (V 27 (i).toNat).toNat = t → e = (-1) → 0 ≤ V 28 (i).toNat → V 28 (i).toNat ≤ 5 → HJ 238 31 lv9 [] h Q)
    (g3 : ∀ x12 : Int32, x12.toInt = i + 1 → ∀ lv12 : List (Nat × Value), m_lk lv12 0 = some (.ref m) → m_lk lv12 3 = some (.int lx3) → m_lk lv12 4 = some (.int lx4) → m_lk lv12 5 = some (.int x12) → 0 ≤ F 26 → F 26 ≤ 63 → i < F 26 → 0 ≤ V 27 (i).toNat → V 27 (i).toNat ≤ 15999 → V 20 (V 27 (i).toNat).toNat = t → e ≠ (-1) → 0 ≤ V 28 (i).toNat → V 28 (i).toNat ≤ 5 → V 28 (i).toNat ≥ e → HJ 238 31 lv12 [] h Q)
    (g4 : ∀ x13 : Int32, x13.toInt = V 28 (i).toNat → ∀ x15 : Int32, x15.toInt = i + 1 → ∀ lv15 : List (Nat × Value), m_lk lv15 0 = some (.ref m) → m_lk lv15 3 = some (.int lx3) → m_lk lv15 4 = some (.int x13) → m_lk lv15 5 = some (.int x15) → 0 ≤ F 26 → F 26 ≤ 63 → i < F 26 → 0 ≤ V 27 (i).toNat → V 27 (i).toNat ≤ 15999 → V 20 (V 27 (i).toNat).toNat = t → e ≠ (-1) → 0 ≤ V 28 (i).toNat → V 28 (i).toNat ≤ 5 → V 28 (i).toNat < e → HJ 238 31 lv15 [] h Q)
    : HJ 238 31 lv [] h Q := by
  refine hI_il2 (k := 5) rfl e5 rfl ?_ -- 31
  refine hI_al (k := 0) rfl e0 rfl ?_ -- 33
  refine hM_gi M (by decide) rfl rfl rfl (k := 26) (c := 9) (lo := 0) (hi := 63) rfl rfl rfl rfl rfl (fun x1 q1 a1 b1 => ?_) -- 34
  refine hM_cge (off := 57) (t := 94) rfl lq5 q1 (by decide) rfl (fun c37 => ?_) (fun c37 => ?_) -- 37
  · refine hI_il2 (k := 4) rfl e4 rfl ?_ -- 94
    refine hI_ri rfl rfl ?_ -- 96
    exact g0 a1 b1 c37
  · refine hI_al (k := 0) rfl e0 rfl ?_ -- 40
    refine hM_ga M (by decide) rfl rfl (k := 20) (c := 9) rfl rfl rfl (by decide +kernel) rfl ?_ -- 41
    refine hI_al (k := 0) rfl e0 rfl ?_ -- 44
    refine hM_ga M (by decide) rfl rfl (k := 27) (c := 9) rfl rfl rfl (by decide +kernel) rfl ?_ -- 45
    refine hI_il2 (k := 5) rfl e5 rfl ?_ -- 48
    refine hM_ia M (by decide) (K := 27) (R2 := 63) (L := 64) (H := 64) (lo := 0) (hi := 15999) rfl (by decide) rfl rfl (fun _ => rfl) rfl lq5 (by omega) (by omega) rfl (fun x2 q2 a2 b2 => ?_) -- 50
    refine hM_ba M (by decide) (K := 20) (R2 := 57) (L := 16000) (H := 16000) (lo := (-2147483648)) (hi := 2147483647) rfl (by decide) rfl rfl (Or.inl rfl) (fun _ => rfl) rfl q2 (by omega) (by omega) rfl (fun x3 q3 a3 b3 => ?_) -- 51
    refine hI_il (k := 3) rfl e3 rfl ?_ -- 52
    refine hM_cne (off := 31) (t := 84) rfl q3 lq3 (by decide) rfl (fun c53 => ?_) (fun c53 => ?_) -- 53
    · refine hI_il2 (k := 4) rfl e4 rfl ?_ -- 84
      refine hM_si2 (k := 4) rfl (by decide +kernel) rfl (fun lv4 e4_4 u4 => ?_) -- 86
      have e4_0 := u4 0 _ (by decide) (Or.inl rfl) e0
      have e4_3 := u4 3 _ (by decide) (Or.inl rfl) e3
      have e4_5 := u4 5 _ (by decide) (Or.inl rfl) e5
      refine hM_inc (k := 5) (z := 1) rfl e4_5 lq5 (by decide) (by omega) (by omega) (by decide +kernel) rfl (fun lv5 x5 q5 e5_5 u5 => ?_) -- 88
      have e5_0 := u5 0 _ (by decide) (Or.inl rfl) e4_0
      have e5_3 := u5 3 _ (by decide) (Or.inl rfl) e4_3
      have e5_4 := u5 4 _ (by decide) (Or.inl rfl) e4_4
      refine hI_go (pc' := 31) (off := (-60)) rfl (by decide) ?_ -- 91
      exact g1 x5 q5 lv5 e5_0 e5_3 e5_4 e5_5 a1 b1 c37 a2 b2 c53
    · refine hI_il2 (k := 4) rfl e4 rfl ?_ -- 56
      refine hM_ic (n := (-1)) rfl (by decide) rfl (fun x6 q6 => ?_) -- 58
      refine hM_ceq (off := 15) (t := 74) rfl lq4 q6 (by decide) rfl (fun c59 => ?_) (fun c59 => ?_) -- 59
      · refine hI_al (k := 0) rfl e0 rfl ?_ -- 74
        refine hM_ga M (by decide) rfl rfl (k := 28) (c := 9) rfl rfl rfl (by decide +kernel) rfl ?_ -- 75
        refine hI_il2 (k := 5) rfl e5 rfl ?_ -- 78
        refine hM_ia M (by decide) (K := 28) (R2 := 64) (L := 64) (H := 64) (lo := 0) (hi := 5) rfl (by decide) rfl rfl (fun _ => rfl) rfl lq5 (by omega) (by omega) rfl (fun x7 q7 a7 b7 => ?_) -- 80
        refine hI_go (pc' := 86) (off := 5) rfl (by decide) ?_ -- 81
        refine hM_si2 (k := 4) rfl (by decide +kernel) rfl (fun lv8 e8_4 u8 => ?_) -- 86
        have e8_0 := u8 0 _ (by decide) (Or.inl rfl) e0
        have e8_3 := u8 3 _ (by decide) (Or.inl rfl) e3
        have e8_5 := u8 5 _ (by decide) (Or.inl rfl) e5
        refine hM_inc (k := 5) (z := 1) rfl e8_5 lq5 (by decide) (by omega) (by omega) (by decide +kernel) rfl (fun lv9 x9 q9 e9_5 u9 => ?_) -- 88
        have e9_0 := u9 0 _ (by decide) (Or.inl rfl) e8_0
        have e9_3 := u9 3 _ (by decide) (Or.inl rfl) e8_3
        have e9_4 := u9 4 _ (by decide) (Or.inl rfl) e8_4
        refine hI_go (pc' := 31) (off := (-60)) rfl (by decide) ?_ -- 91
        exact g2 x7 q7 x9 q9 lv9 e9_0 e9_3 e9_4 e9_5 a1 b1 c37 a2 b2 c53 c59 a7 b7
      · refine hI_al (k := 0) rfl e0 rfl ?_ -- 62
        refine hM_ga M (by decide) rfl rfl (k := 28) (c := 9) rfl rfl rfl (by decide +kernel) rfl ?_ -- 63
        refine hI_il2 (k := 5) rfl e5 rfl ?_ -- 66
        refine hM_ia M (by decide) (K := 28) (R2 := 64) (L := 64) (H := 64) (lo := 0) (hi := 5) rfl (by decide) rfl rfl (fun _ => rfl) rfl lq5 (by omega) (by omega) rfl (fun x10 q10 a10 b10 => ?_) -- 68
        refine hI_il2 (k := 4) rfl e4 rfl ?_ -- 69
        refine hM_cge (off := 13) (t := 84) rfl q10 lq4 (by decide) rfl (fun c71 => ?_) (fun c71 => ?_) -- 71
        · refine hI_il2 (k := 4) rfl e4 rfl ?_ -- 84
          refine hM_si2 (k := 4) rfl (by decide +kernel) rfl (fun lv11 e11_4 u11 => ?_) -- 86
          have e11_0 := u11 0 _ (by decide) (Or.inl rfl) e0
          have e11_3 := u11 3 _ (by decide) (Or.inl rfl) e3
          have e11_5 := u11 5 _ (by decide) (Or.inl rfl) e5
          refine hM_inc (k := 5) (z := 1) rfl e11_5 lq5 (by decide) (by omega) (by omega) (by decide +kernel) rfl (fun lv12 x12 q12 e12_5 u12 => ?_) -- 88
          have e12_0 := u12 0 _ (by decide) (Or.inl rfl) e11_0
          have e12_3 := u12 3 _ (by decide) (Or.inl rfl) e11_3
          have e12_4 := u12 4 _ (by decide) (Or.inl rfl) e11_4
          refine hI_go (pc' := 31) (off := (-60)) rfl (by decide) ?_ -- 91
          exact g3 x12 q12 lv12 e12_0 e12_3 e12_4 e12_5 a1 b1 c37 a2 b2 c53 c59 a10 b10 c71
        · refine hI_al (k := 0) rfl e0 rfl ?_ -- 74
          refine hM_ga M (by decide) rfl rfl (k := 28) (c := 9) rfl rfl rfl (by decide +kernel) rfl ?_ -- 75
          refine hI_il2 (k := 5) rfl e5 rfl ?_ -- 78
          refine hM_ia M (by decide) (K := 28) (R2 := 64) (L := 64) (H := 64) (lo := 0) (hi := 5) rfl (by decide) rfl rfl (fun _ => rfl) rfl lq5 (by omega) (by omega) rfl (fun x13 q13 a13 b13 => ?_) -- 80
          refine hI_go (pc' := 86) (off := 5) rfl (by decide) ?_ -- 81
          refine hM_si2 (k := 4) rfl (by decide +kernel) rfl (fun lv14 e14_4 u14 => ?_) -- 86
          have e14_0 := u14 0 _ (by decide) (Or.inl rfl) e0
          have e14_3 := u14 3 _ (by decide) (Or.inl rfl) e3
          have e14_5 := u14 5 _ (by decide) (Or.inl rfl) e5
          refine hM_inc (k := 5) (z := 1) rfl e14_5 lq5 (by decide) (by omega) (by omega) (by decide +kernel) rfl (fun lv15 x15 q15 e15_5 u15 => ?_) -- 88
          have e15_0 := u15 0 _ (by decide) (Or.inl rfl) e14_0
          have e15_3 := u15 3 _ (by decide) (Or.inl rfl) e14_3
          have e15_4 := u15 4 _ (by decide) (Or.inl rfl) e14_4
          refine hI_go (pc' := 31) (off := (-60)) rfl (by decide) ?_ -- 91
          exact g4 x13 q13 x15 q15 lv15 e15_0 e15_3 e15_4 e15_5 a1 b1 c37 a2 b2 c53 c59 a10 b10 c71
theorem l_dp {n0 : Int} {rk : Nat → Int} {S : PSt} {O : WKt} {t : Int} {xt : Int32} (M : MX 49 W ρ m A h0 h F V G) (fw : F 26 = (O.1 : Int)) (n63 : O.1 ≤ 63) (X : w_X n0 rk (V 27) (V 29) (V 28) O.1) (en : n0 = (ps_n S : Int)) (n16 : n0 ≤ 16000) (wo : wk_of V O.1 O) (rn : rn_of F V S) (qt : xt.toInt = t) (g : ∀ x : Int32, x.toInt = wd_l S O t O.1 → Q (some (.int x)) h) : ∀ (d i : Nat) (lv : List (Nat × Value)) (xe xi : Int32), i + d = O.1 → xe.toInt = wd_l S O t i → xi.toInt = (i : Int) → m_lk lv 0 = some (.ref m) → m_lk lv 3 = some (.int xt) → m_lk lv 4 = some (.int xe) → m_lk lv 5 = some (.int xi) → HJ 238 31 lv [] h Q := by
  intro d
  induction d with
  | zero =>
    intro i lv xe xi hd qe qi e0 e3 e4 e5
    have ei : i = O.1 := by omega
    subst ei
    exact s_dp31 M e0 e3 qt e4 qe e5 qi (by omega) (by omega) (fun c => absurd c (by omega)) (fun _ _ _ => g xe qe) (fun _ _ _ _ _ _ _ _ _ c => absurd c (by omega)) (fun _ _ _ _ _ _ _ _ _ _ _ c => absurd c (by omega)) (fun _ _ _ _ _ _ _ _ _ c => absurd c (by omega)) (fun _ _ _ _ _ _ _ _ _ _ _ c => absurd c (by omega))
  | succ d ih =>
    intro i lv xe xi hd qe qi e0 e3 e4 e5
    obtain ⟨y0, y1, y2⟩ := wo.2 i (by omega)
    obtain ⟨⟨x0, x1, -⟩, -⟩ := X i (by omega)
    have tt := (rn.2 (V 27 i).toNat (by omega)).1
    rw [← y0] at tt
    refine s_dp31 M e0 e3 qt e4 qe e5 qi (by omega) (by omega) (fun _ => by rw [Int.toNat_natCast]; omega) (fun _ _ c => absurd c (by omega)) (fun x q lv1 a0 a3 a4 a5 _ _ _ _ _ c => ?_) (fun x3 q3 x q lv1 a0 a3 a4 a5 _ _ _ _ _ c c2 _ _ => ?_) (fun x q lv1 a0 a3 a4 a5 _ _ _ _ _ c c2 _ _ c3 => ?_) (fun x3 q3 x q lv1 a0 a3 a4 a5 _ _ _ _ _ c c2 _ _ c3 => ?_)
    · rw [Int.toNat_natCast, ← y0, ← tt] at c
      refine ih (i + 1) lv1 xe x (by omega) ?_ (by omega) a0 a3 a4 a5
      rw [wd_l, if_neg (fun y => c y.1)]
      exact qe
    · rw [Int.toNat_natCast, ← y0, ← tt] at c
      rw [Int.toNat_natCast] at q3
      refine ih (i + 1) lv1 x3 x (by omega) ?_ (by omega) a0 a3 a4 a5
      rw [wd_l, if_pos ⟨c, Or.inl c2⟩]
      exact q3.trans y2.symm
    · rw [Int.toNat_natCast, ← y2] at c3
      refine ih (i + 1) lv1 xe x (by omega) ?_ (by omega) a0 a3 a4 a5
      rw [wd_l, if_neg (fun y => by
        rcases y.2 with z | z
        · exact c2 z
        · omega)]
      exact qe
    · rw [Int.toNat_natCast, ← y0, ← tt] at c
      rw [Int.toNat_natCast] at q3 c3
      rw [← y2] at c3
      refine ih (i + 1) lv1 x3 x (by omega) ?_ (by omega) a0 a3 a4 a5
      rw [wd_l, if_pos ⟨c, Or.inr c3⟩]
      exact q3.trans y2.symm
theorem c_mdepth {Y : RYt} {r v t : Int} {xr xv xt : Int32} (M : MX 49 W ρ m A h0 h F V G) (hw : d_sub g_la W = true) (hw0 : d_sub [(49, 0)] W = true) (hwh : d_sub [(61, 1001)] W = true) (hwk : d_sub g_wk W = true) (qr : xr.toInt = r) (qv : xv.toInt = v) (qt : xt.toInt = t) (rw_ : p_rw (V 6)) (ok : lay_ok (V 5 0) (V 6) r Y) (g : ∀ (x : Int32) (h' : MH) (F' : Nat → Int) (V' : Nat → Nat → Int) (G' : Nat → Nat → Int64), MX 49 W ρ m A h0 h' F' V' G' → dp_q Y (0 ≤ r ∧ r < V 5 0) v t x.toInt → Q (some (.int x)) h') : HJ 238 0 (lv_args 0 [.ref m, .int xr, .int xv, .int xt]) [] h Q := by
  refine s_dp0 M rfl rfl qr rfl qv rfl qt hw0 (fun h2 F2 f2 M2 => ?_)
  refine c_layOY M2 hw qr qv rw_ ok (fun z h3 F3 V3 G3 M3 hx => ?_)
  show HJ 238 11 _ [.int z] h3 Q
  refine s_dp11 (z := z.toInt) M3 rfl rfl qr rfl qv rfl qt rfl (fun c => ?_) (fun x q c => ?_)
  · obtain ⟨-, ⟨rr, v0, v1⟩, l⟩ := hx.resolve_left (fun y => c y.1)
    have lv := laid_v l
    obtain ⟨⟨n, n40, o⟩, -⟩ := id l
    have wi := wk_allI (S := ry_s Y) (f := ry_h Y v) o.1.1 (by rw [ry_hv v0]; exact o.1.2 v.toNat (by omega))
    have w63 := p_wsL (f := ry_h Y v) 6
    have e64 : (2 : Nat) ^ 6 = 64 := by decide
    rw [e64] at w63
    refine c_hand (v := v.toNat) M3 (by omega) (by omega) hwh (fun h4 V4 M4 e24 oth => ?_)
    show HJ 238 21 _ [] h4 Q
    refine s_dp21 M4 rfl rfl qr rfl qv rfl qt ?_
    refine c_swW (lv := lv_args 0 [.ref m]) M4 rfl hwk l v0 v1 e24 oth (fun h5 F5 V5 M5 I5 fw X wo rn => ?_)
    show HJ 238 25 _ [] h5 Q
    have e17 : F3 17 = (ps_n (ry_s Y) : Int) := by
      have := rn.1
      rw [I5.1 17 (by decide)] at this
      exact this
    have s16 := o.2.1.2.1
    refine s_dp25 M5 rfl rfl qt (fun x1 q1 x3 q3 lv4 a0 a3 a4 a5 => ?_)
    exact l_dp M5 fw (by omega) X e17 (by omega) wo rn qt (fun x q => g x h5 F5 V5 G3 M5 (Or.inr ⟨⟨rr, v0, v1⟩, q⟩)) (wk_all (ry_s Y) (ry_h Y v)).1 0 lv4 x1 x3 (by omega) q1 q3 a0 a3 a4 a5
  · rcases hx with hx | hx
    · exact g x h3 F3 V3 G3 M3 (Or.inl ⟨fun w => hx.2 ⟨w.1, w.2⟩, q⟩)
    · omega
end
section
variable {Q : Option Value → MH → Prop} {ρ : Nat → Nat} {h : MH}
theorem c_cdepth {xr xv xt : Int32} (hC : CCok c_CC ρ) (ht : TH c_sp ρ h) (n1 : c_PT 1 ρ h) (n15 : c_PT 15 ρ h) (g : ∀ (ρ' : Nat → Nat) (h' : MH) (z : Int32), FQ ρ ρ' c_m102.2.1 h h' → TH c_sp ρ' h' → dp_q (ac_Y h (q_ac h (h_r h 16 0) xr.toInt.toNat)) (0 ≤ xr.toInt ∧ xr.toInt < q_fd h (h_r h 16 0) 5) xv.toInt xt.toInt z.toInt → Q (some (.int z)) h') : HJ 110 0 (lv_args 0 [.ref 16, .int xr, .int xv, .int xt]) [] h Q := by
  have h16 := n15.1
  have M := RX.start h
  have no : ∀ lv, ¬ dp_in (ac_Y h (q_ac h (h_r h 16 0) xr.toInt.toNat)) (0 ≤ xr.toInt ∧ xr.toInt < q_fd h (h_r h 16 0) 5) xv.toInt → HJ 110 21 lv [] h Q := fun lv c => by
    refine hM_ic (n := (-1)) rfl (by decide) rfl (fun x q => ?_)
    exact hI_ri rfl rfl (g ρ h x (FQ.refl _ _ _) ht (Or.inl ⟨c, q⟩))
  refine hI_al (k := 0) rfl rfl rfl ?_
  refine hI_il (k := 1) rfl rfl rfl ?_
  refine hM_iv (MX.start (W := []) ht h16) (by decide) rfl rfl (by decide) (as := [.int xr]) (r := []) rfl rfl (by decide +kernel) rfl (by decide +kernel) rfl rfl rfl rfl rfl ?_
  refine r_pastOf ht h16 (fun p hp => ?_)
  show HJ 110 5 _ [.ref p] h Q
  refine hI_as2 (k := 4) rfl (by decide +kernel) rfl ?_
  refine hI_al2 (k := 4) rfl rfl rfl ?_
  rcases hp with ⟨r0, r1, ep⟩ | ⟨hb, ep⟩
  · obtain ⟨r4, p0, bk, fp⟩ := pb_at ht n15 r0 r1
    have pl := (n15.2.1 xr.toInt.toNat r4 p0).1
    obtain ⟨n, n40, o⟩ := ry_15 ht n15 xr.toInt.toNat (by omega)
    rw [← ep] at p0 bk fp pl
    have cp := t_spec ht (by decide) (rfl : c_sp[29]? = some _) fp
    have ok := pa_okT ht n1 fp pl
    have es : (h_i h p 11).toInt + 1 = (ry_v (ac_Y h (q_ac h (h_r h 16 0) xr.toInt.toNat)) : Int) := bk.1.1
    generalize ac_Y h (q_ac h (h_r h 16 0) xr.toInt.toNat) = Y at *
    refine hI_nl (t := 21) rfl (by decide) rfl (Or.inr (cp.2.2.1 rfl)) (fun z => absurd z p0) (fun _ => ?_)
    refine hI_al2 (k := 4) rfl rfl rfl ?_
    refine hI_il (k := 2) rfl rfl rfl ?_
    refine hM_iv (MX.start (W := []) ht fp) (by decide) rfl rfl (by decide) (as := [.int xv]) (r := []) rfl rfl (by decide +kernel) rfl (by decide +kernel) rfl rfl rfl rfl rfl ?_
    refine k_has M ok.1.1 rfl (fun z hz => ?_)
    show HJ 110 18 _ [.int z] h Q
    refine hM_zne (off := 5) (t := 23) rfl (zx := z.toInt) rfl (by decide) rfl (fun c => ?_) (fun c => no _ (fun w => ?_))
    · obtain ⟨-, v0, v1⟩ := hz.resolve_right (fun w => c w.1)
      refine hI_al (k := 0) rfl rfl rfl ?_
      refine hI_al2 (k := 4) rfl rfl rfl ?_
      refine hI_il (k := 2) rfl rfl rfl ?_
      refine hM_iv (MX.start (W := []) ht h16) (by decide) rfl rfl (by decide) (as := [.ref p, .int xv]) (r := []) rfl rfl (by decide +kernel) rfl (by decide +kernel) rfl rfl rfl rfl rfl ?_
      refine c_seen (v := xv.toInt) hC ht h16 n1 fp pl bk o rfl v0 (by omega) (fun ρ2 h2 F t2 m1 pb wl e5 wok _ _ => ?_)
      show HJ 110 30 _ [.ref (h_r h 16 5)] h2 Q
      refine hI_il (k := 3) rfl rfl rfl ?_
      have fw := (th_rf ht (R := 6) (by decide) rfl h16 (k := 5) (R2 := 16) rfl (fun z => by cases z)).2
      have fw2 : ρ2 (h_r h 16 5) = 16 := (F.2.1 _ (by rw [fw]; decide)).trans fw
      refine hM_iv (MX.start (W := []) t2 fw2) (by decide) rfl rfl (by decide) (as := [.int xt]) (r := []) rfl rfl (by decide +kernel) rfl (by decide +kernel) rfl rfl rfl rfl rfl ?_
      have wi := wk_allI (S := ry_s Y) (f := ry_h Y xv.toInt) o.1.1 (by rw [ry_hv v0]; exact o.1.2 xv.toInt.toNat (by omega))
      have w63 := p_wsL (f := ry_h Y xv.toInt) 6
      have e64 : (2 : Nat) ^ 6 = 64 := by decide
      rw [e64] at w63
      obtain ⟨l, I⟩ := bk.2.2.2.2.2.1
      refine k_led (S := ry_s Y) (RX.start h2) wok wl (by omega) (fun i hi => ?_) rfl (fun x qx => ?_)
      · have a := (wi.1 i hi).1
        have b := I.2.2.2.2 ((wk_all (ry_s Y) (ry_h Y xv.toInt)).2.1 i).toNat (by show _ < ps_n (ry_s Y); omega)
        exact ⟨b.2.1, b.2.2.1.1⟩
      · show HJ 110 34 _ [.int x] h2 Q
        exact hI_ri rfl rfl (g ρ2 h2 x F t2 (Or.inr ⟨⟨⟨r0, r1⟩, v0, by omega⟩, qx⟩))
    · have := w.2
      rcases hz with hz | hz <;> omega
  · subst ep
    refine hI_nl (t := 21) rfl (by decide) rfl (Or.inl rfl) (fun _ => no _ (fun w => hb w.1)) (fun z => absurd rfl z)
end
-- walk, both sides
def wa_v (S : PSt) (O : WKt) (k : Nat) (q : Int) : Int := if q = 0 then ps_t S (O.2.1 k).toNat else if q = 1 then ps_y S (O.2.1 k).toNat else if q = 2 then ps_k S (O.2.1 k).toNat else if q = 3 then O.2.1 k else if q = 4 then O.2.2.2 k else -1
def wa_in (Y : RYt) (row : Prop) (v k : Int) : Prop := row ∧ (0 ≤ v ∧ v < (ry_v Y : Int)) ∧ 0 ≤ k ∧ k < ((wk_all (ry_s Y) (ry_h Y v)).1 : Int)
def wa_q (Y : RYt) (row : Prop) (v k q z : Int) : Prop := (¬ wa_in Y row v k ∧ z = -1) ∨ (wa_in Y row v k ∧ z = wa_v (ry_s Y) (wk_all (ry_s Y) (ry_h Y v)) k.toNat q)
theorem wa_eq {Y : RYt} {row row' : Prop} {v k q y z : Int} (er : row ↔ row') (a : wa_q Y row v k q z) (b : wa_q Y row' v k q y) : y = z := by
  rcases a with ⟨a1, a2⟩ | ⟨a1, a2⟩
  · rcases b with ⟨-, b2⟩ | ⟨b1, -⟩
    · rw [a2, b2]
    · exact absurd ⟨er.mpr b1.1, b1.2⟩ a1
  · rcases b with ⟨b1, -⟩ | ⟨-, b2⟩
    · exact absurd ⟨er.mp a1.1, a1.2⟩ b1
    · rw [a2, b2]
section
variable {lv : List (Nat × Value)} {Q : Option Value → MH → Prop} {W : List (Nat × Nat)} {ρ : Nat → Nat} {m : Nat} {A : Nat → Nat} {h0 h : MH} {F : Nat → Int} {V : Nat → Nat → Int} {G : Nat → Nat → Int64}
theorem s_wl0_ {r v k q : Int} (M : MX 49 W ρ m A h0 h F V G) (e0 : m_lk lv 0 = some (.ref m)) {lx1 : Int32} (e1 : m_lk lv 1 = some (.int lx1)) (lq1 : lx1.toInt = r) {lx2 : Int32} (e2 : m_lk lv 2 = some (.int lx2)) (lq2 : lx2.toInt = v) {lx3 : Int32} (e3 : m_lk lv 3 = some (.int lx3)) (lq3 : lx3.toInt = k) {lx4 : Int32} (e4 : m_lk lv 4 = some (.int lx4)) (lq4 : lx4.toInt = q) (hw : d_sub [(49, 0)] W = true)
    (g0 : ∀ h2 : MH, ∀ F2 : Nat → Int, F2 = m_u F 0 (0) → MX 49 W ρ m A h0 h2 F2 V G → HJ 228 0 (lv_args 0 [.ref m, .int lx1, .int lx2]) [] h2 (fun v h' => HJ 236 11 lv (v.toList ++ []) h' Q))
    : HJ 236 0 lv [] h Q := by
  refine hI_al (k := 0) rfl e0 rfl ?_ -- 0
  refine hM_ic (n := 0) rfl (by decide) rfl (fun x1 q1 => ?_) -- 1
  refine hM_pi M (by decide) ok_49 rfl rfl (k := 0) (c := 9) (lo := (-2147483648)) (hi := 2147483647) rfl rfl ⟨by decide, by decide +kernel, rfl⟩ rfl (d_subm hw (by decide +kernel)) q1 (by omega) (by omega) rfl (fun h2 F2 f2 M2 => ?_) -- 2
  refine hI_al (k := 0) rfl e0 rfl ?_ -- 5
  refine hI_il (k := 1) rfl e1 rfl ?_ -- 6
  refine hI_il (k := 2) rfl e2 rfl ?_ -- 7
  refine hM_iv M2 (by decide) rfl rfl (by decide) (as := [.int lx1, .int lx2]) (r := []) rfl rfl (by decide +kernel) rfl (by decide +kernel) rfl rfl rfl rfl rfl ?_ -- 8
  exact g0 h2 F2 f2 M2
theorem s_wl11_ {r v k q z : Int} (M : MX 49 W ρ m A h0 h F V G) (e0 : m_lk lv 0 = some (.ref m)) {lx1 : Int32} (e1 : m_lk lv 1 = some (.int lx1)) (lq1 : lx1.toInt = r) {lx2 : Int32} (e2 : m_lk lv 2 = some (.int lx2)) (lq2 : lx2.toInt = v) {lx3 : Int32} (e3 : m_lk lv 3 = some (.int lx3)) (lq3 : lx3.toInt = k) {lx4 : Int32} (e4 : m_lk lv 4 = some (.int lx4)) (lq4 : lx4.toInt = q) {sx0 : Int32} (sq0 : sx0.toInt = z) 
    (g0 : z ≠ 0 → HJ 208 0 (lv_args 0 [.ref m, .int lx2]) [] h (fun v h' => HJ 236 21 lv (v.toList ++ []) h' Q))
    (g1 : ∀ x1 : Int32, x1.toInt = (-1) → z = 0 → Q (some (.int x1)) h)
    : HJ 236 11 lv [.int sx0] h Q := by
  refine hM_zne (off := 5) (t := 16) rfl sq0 (by decide) rfl (fun c11 => ?_) (fun c11 => ?_) -- 11
  · refine hI_al (k := 0) rfl e0 rfl ?_ -- 16
    refine hI_il (k := 2) rfl e2 rfl ?_ -- 17
    refine hM_iv M (by decide) rfl rfl (by decide) (as := [.int lx2]) (r := []) rfl rfl (by decide +kernel) rfl (by decide +kernel) rfl rfl rfl rfl rfl ?_ -- 18
    exact g0 c11
  · refine hM_ic (n := (-1)) rfl (by decide) rfl (fun x1 q1 => ?_) -- 14
    refine hI_ri rfl rfl ?_ -- 15
    exact g1 x1 q1 c11
theorem s_wl21_ {r v k q : Int} (M : MX 49 W ρ m A h0 h F V G) (e0 : m_lk lv 0 = some (.ref m)) {lx1 : Int32} (e1 : m_lk lv 1 = some (.int lx1)) (lq1 : lx1.toInt = r) {lx2 : Int32} (e2 : m_lk lv 2 = some (.int lx2)) (lq2 : lx2.toInt = v) {lx3 : Int32} (e3 : m_lk lv 3 = some (.int lx3)) (lq3 : lx3.toInt = k) {lx4 : Int32} (e4 : m_lk lv 4 = some (.int lx4)) (lq4 : lx4.toInt = q) 
    (g0 : HJ 219 0 (lv_args 0 [.ref m]) [] h (fun v h' => HJ 236 25 lv (v.toList ++ []) h' Q))
    : HJ 236 21 lv [] h Q := by
  refine hI_al (k := 0) rfl e0 rfl ?_ -- 21
  refine hM_iv M (by decide) rfl rfl (by decide) (as := []) (r := []) rfl rfl (by decide +kernel) rfl (by decide +kernel) rfl rfl rfl rfl rfl ?_ -- 22
  exact g0 
theorem s_wl25_ {k q : Int} (M : MX 49 W ρ m A h0 h F V G) (e0 : m_lk lv 0 = some (.ref m)) {lx3 : Int32} (e3 : m_lk lv 3 = some (.int lx3)) (lq3 : lx3.toInt = k) {lx4 : Int32} (e4 : m_lk lv 4 = some (.int lx4)) (lq4 : lx4.toInt = q) 
    (g0 : ∀ x1 : Int32, x1.toInt = 0 → ∀ x4 : Int32, x4.toInt = (F 26) - 1 → 0 ≤ F 26 → F 26 ≤ 63 → HJ 186 0 (lv_args 0 [.int lx3, .int x1, .int x4]) [] h (fun v h' => HJ 236 36 lv (v.toList ++ []) h' Q))
    : HJ 236 25 lv [] h Q := by
  refine hI_il (k := 3) rfl e3 rfl ?_ -- 25
  refine hM_ic (n := 0) rfl (by decide) rfl (fun x1 q1 => ?_) -- 26
  refine hI_al (k := 0) rfl e0 rfl ?_ -- 27
  refine hM_gi M (by decide) rfl rfl rfl (k := 26) (c := 9) (lo := 0) (hi := 63) rfl rfl rfl rfl rfl (fun x2 q2 a2 b2 => ?_) -- 28
  refine hM_ic (n := 1) rfl (by decide) rfl (fun x3 q3 => ?_) -- 31
  refine hM_sub rfl q2 q3 (by omega) (by omega) rfl (fun x4 q4 => ?_) -- 32
  refine hM_is0 (as := [.int lx3, .int x1, .int x4]) (r := []) rfl rfl (by decide +kernel) rfl rfl rfl rfl rfl ?_ -- 33
  exact g0 x1 q1 x4 q4 a2 b2
theorem s_wl36_ {k q z : Int} (M : MX 49 W ρ m A h0 h F V G) (e0 : m_lk lv 0 = some (.ref m)) {lx3 : Int32} (e3 : m_lk lv 3 = some (.int lx3)) (lq3 : lx3.toInt = k) {lx4 : Int32} (e4 : m_lk lv 4 = some (.int lx4)) (lq4 : lx4.toInt = q) {sx0 : Int32} (sq0 : sx0.toInt = z) (k0 : z ≠ 0 → 0 ≤ k ∧ k ≤ 62) (a0 : z ≠ 0 → 0 ≤ V 27 (k).toNat ∧ V 27 (k).toNat ≤ 15999)
    (g0 : ∀ x7 : Int32, x7.toInt = (-1) → ∀ lv2 : List (Nat × Value), z ≠ 0 → 0 ≤ V 27 (k).toNat → V 27 (k).toNat ≤ 15999 → q ≠ 0 → q ≠ 1 → q ≠ 2 → q ≠ 3 → q ≠ 4 → Q (some (.int x7)) h)
    (g1 : ∀ x8 : Int32, x8.toInt = V 28 (k).toNat → ∀ lv2 : List (Nat × Value), z ≠ 0 → 0 ≤ V 27 (k).toNat → V 27 (k).toNat ≤ 15999 → q ≠ 0 → q ≠ 1 → q ≠ 2 → q ≠ 3 → q = 4 → 0 ≤ V 28 (k).toNat → V 28 (k).toNat ≤ 5 → Q (some (.int x8)) h)
    (g2 : ∀ x1 : Int32, x1.toInt = V 27 (k).toNat → ∀ lv2 : List (Nat × Value), z ≠ 0 → 0 ≤ V 27 (k).toNat → V 27 (k).toNat ≤ 15999 → q ≠ 0 → q ≠ 1 → q ≠ 2 → q = 3 → Q (some (.int x1)) h)
    (g3 : ∀ x9 : Int32, x9.toInt = V 22 (V 27 (k).toNat).toNat → ∀ lv2 : List (Nat × Value), z ≠ 0 → 0 ≤ V 27 (k).toNat → V 27 (k).toNat ≤ 15999 → q ≠ 0 → q ≠ 1 → q = 2 → Q (some (.int x9)) h)
    (g4 : ∀ x10 : Int32, x10.toInt = V 21 (V 27 (k).toNat).toNat → ∀ lv2 : List (Nat × Value), z ≠ 0 → 0 ≤ V 27 (k).toNat → V 27 (k).toNat ≤ 15999 → q ≠ 0 → q = 1 → Q (some (.int x10)) h)
    (g5 : ∀ x11 : Int32, x11.toInt = V 20 (V 27 (k).toNat).toNat → ∀ lv2 : List (Nat × Value), z ≠ 0 → 0 ≤ V 27 (k).toNat → V 27 (k).toNat ≤ 15999 → q = 0 → Q (some (.int x11)) h)
    (g6 : ∀ x12 : Int32, x12.toInt = (-1) → z = 0 → Q (some (.int x12)) h)
    : HJ 236 36 lv [.int sx0] h Q := by
  refine hM_zne (off := 5) (t := 41) rfl sq0 (by decide) rfl (fun c36 => ?_) (fun c36 => ?_) -- 36
  · refine hI_al (k := 0) rfl e0 rfl ?_ -- 41
    refine hM_ga M (by decide) rfl rfl (k := 27) (c := 9) rfl rfl rfl (by decide +kernel) rfl ?_ -- 42
    refine hI_il (k := 3) rfl e3 rfl ?_ -- 45
    refine hM_ia M (by decide) (K := 27) (R2 := 63) (L := 64) (H := 64) (lo := 0) (hi := 15999) rfl (by decide) rfl rfl (fun _ => rfl) rfl lq3 (by omega) (by omega) rfl (fun x1 q1 a1 b1 => ?_) -- 46
    refine hM_si2 (k := 5) rfl (by decide +kernel) rfl (fun lv2 e2_5 u2 => ?_) -- 47
    have e2_0 := u2 0 _ (by decide) (Or.inl rfl) e0
    have e2_3 := u2 3 _ (by decide) (Or.inl rfl) e3
    have e2_4 := u2 4 _ (by decide) (Or.inl rfl) e4
    refine hI_il2 (k := 4) rfl e2_4 rfl ?_ -- 49
    refine hM_zne (off := 13) (t := 64) rfl lq4 (by decide) rfl (fun c51 => ?_) (fun c51 => ?_) -- 51
    · refine hI_il2 (k := 4) rfl e2_4 rfl ?_ -- 64
      refine hM_ic (n := 1) rfl (by decide) rfl (fun x3 q3 => ?_) -- 66
      refine hM_cne (off := 13) (t := 80) rfl lq4 q3 (by decide) rfl (fun c67 => ?_) (fun c67 => ?_) -- 67
      · refine hI_il2 (k := 4) rfl e2_4 rfl ?_ -- 80
        refine hM_ic (n := 2) rfl (by decide) rfl (fun x4 q4 => ?_) -- 82
        refine hM_cne (off := 13) (t := 96) rfl lq4 q4 (by decide) rfl (fun c83 => ?_) (fun c83 => ?_) -- 83
        · refine hI_il2 (k := 4) rfl e2_4 rfl ?_ -- 96
          refine hM_ic (n := 3) rfl (by decide) rfl (fun x5 q5 => ?_) -- 98
          refine hM_cne (off := 8) (t := 107) rfl lq4 q5 (by decide) rfl (fun c99 => ?_) (fun c99 => ?_) -- 99
          · refine hI_il2 (k := 4) rfl e2_4 rfl ?_ -- 107
            refine hM_ic (n := 4) rfl (by decide) rfl (fun x6 q6 => ?_) -- 109
            refine hM_cne (off := 12) (t := 122) rfl lq4 q6 (by decide) rfl (fun c110 => ?_) (fun c110 => ?_) -- 110
            · refine hM_ic (n := (-1)) rfl (by decide) rfl (fun x7 q7 => ?_) -- 122
              refine hI_ri rfl rfl ?_ -- 123
              exact g0 x7 q7 lv2 c36 a1 b1 c51 c67 c83 c99 c110
            · refine hI_al (k := 0) rfl e2_0 rfl ?_ -- 113
              refine hM_ga M (by decide) rfl rfl (k := 28) (c := 9) rfl rfl rfl (by decide +kernel) rfl ?_ -- 114
              refine hI_il (k := 3) rfl e2_3 rfl ?_ -- 117
              refine hM_ia M (by decide) (K := 28) (R2 := 64) (L := 64) (H := 64) (lo := 0) (hi := 5) rfl (by decide) rfl rfl (fun _ => rfl) rfl lq3 (by omega) (by omega) rfl (fun x8 q8 a8 b8 => ?_) -- 118
              refine hI_go (pc' := 123) (off := 4) rfl (by decide) ?_ -- 119
              refine hI_ri rfl rfl ?_ -- 123
              exact g1 x8 q8 lv2 c36 a1 b1 c51 c67 c83 c99 c110 a8 b8
          · refine hI_il2 (k := 5) rfl e2_5 rfl ?_ -- 102
            refine hI_go (pc' := 123) (off := 19) rfl (by decide) ?_ -- 104
            refine hI_ri rfl rfl ?_ -- 123
            exact g2 x1 q1 lv2 c36 a1 b1 c51 c67 c83 c99
        · refine hI_al (k := 0) rfl e2_0 rfl ?_ -- 86
          refine hM_ga M (by decide) rfl rfl (k := 22) (c := 9) rfl rfl rfl (by decide +kernel) rfl ?_ -- 87
          refine hI_il2 (k := 5) rfl e2_5 rfl ?_ -- 90
          refine hM_ba M (by decide) (K := 22) (R2 := 59) (L := 16000) (H := 16000) (lo := (-2147483648)) (hi := 2147483647) rfl (by decide) rfl rfl (Or.inl rfl) (fun _ => rfl) rfl q1 (by omega) (by omega) rfl (fun x9 q9 a9 b9 => ?_) -- 92
          refine hI_go (pc' := 123) (off := 30) rfl (by decide) ?_ -- 93
          refine hI_ri rfl rfl ?_ -- 123
          exact g3 x9 q9 lv2 c36 a1 b1 c51 c67 c83
      · refine hI_al (k := 0) rfl e2_0 rfl ?_ -- 70
        refine hM_ga M (by decide) rfl rfl (k := 21) (c := 9) rfl rfl rfl (by decide +kernel) rfl ?_ -- 71
        refine hI_il2 (k := 5) rfl e2_5 rfl ?_ -- 74
        refine hM_ba M (by decide) (K := 21) (R2 := 58) (L := 16000) (H := 16000) (lo := (-2147483648)) (hi := 2147483647) rfl (by decide) rfl rfl (Or.inl rfl) (fun _ => rfl) rfl q1 (by omega) (by omega) rfl (fun x10 q10 a10 b10 => ?_) -- 76
        refine hI_go (pc' := 123) (off := 46) rfl (by decide) ?_ -- 77
        refine hI_ri rfl rfl ?_ -- 123
        exact g4 x10 q10 lv2 c36 a1 b1 c51 c67
    · refine hI_al (k := 0) rfl e2_0 rfl ?_ -- 54
      refine hM_ga M (by decide) rfl rfl (k := 20) (c := 9) rfl rfl rfl (by decide +kernel) rfl ?_ -- 55
      refine hI_il2 (k := 5) rfl e2_5 rfl ?_ -- 58
      refine hM_ba M (by decide) (K := 20) (R2 := 57) (L := 16000) (H := 16000) (lo := (-2147483648)) (hi := 2147483647) rfl (by decide) rfl rfl (Or.inl rfl) (fun _ => rfl) rfl q1 (by omega) (by omega) rfl (fun x11 q11 a11 b11 => ?_) -- 60
      refine hI_go (pc' := 123) (off := 62) rfl (by decide) ?_ -- 61
      refine hI_ri rfl rfl ?_ -- 123
      exact g5 x11 q11 lv2 c36 a1 b1 c51
  · refine hM_ic (n := (-1)) rfl (by decide) rfl (fun x12 q12 => ?_) -- 39
    refine hI_ri rfl rfl ?_ -- 40
    exact g6 x12 q12 c36
theorem c_mwalk {Y : RYt} {r v k q : Int} {xr xv xk xq : Int32} (M : MX 49 W ρ m A h0 h F V G) (hw : d_sub g_la W = true) (hw0 : d_sub [(49, 0)] W = true) (hwh : d_sub [(61, 1001)] W = true) (hwk : d_sub g_wk W = true) (qr : xr.toInt = r) (qv : xv.toInt = v) (qk : xk.toInt = k) (qq : xq.toInt = q) (rw_ : p_rw (V 6)) (ok : lay_ok (V 5 0) (V 6) r Y) (g : ∀ (x : Int32) (h' : MH) (F' : Nat → Int) (V' : Nat → Nat → Int) (G' : Nat → Nat → Int64), MX 49 W ρ m A h0 h' F' V' G' → wa_q Y (0 ≤ r ∧ r < V 5 0) v k q x.toInt → Q (some (.int x)) h') : HJ 236 0 (lv_args 0 [.ref m, .int xr, .int xv, .int xk, .int xq]) [] h Q := by
  refine s_wl0_ M rfl rfl qr rfl qv rfl qk rfl qq hw0 (fun h2 F2 f2 M2 => ?_)
  refine c_layOY M2 hw qr qv rw_ ok (fun z h3 F3 V3 G3 M3 hx => ?_)
  show HJ 236 11 _ [.int z] h3 Q
  refine s_wl11_ (z := z.toInt) M3 rfl rfl qr rfl qv rfl qk rfl qq rfl (fun c => ?_) (fun x q1 c => ?_)
  · obtain ⟨-, ⟨rr, v0, v1⟩, l⟩ := hx.resolve_left (fun y => c y.1)
    have lv := laid_v l
    obtain ⟨⟨n, n40, o⟩, -⟩ := id l
    have wi := wk_allI (S := ry_s Y) (f := ry_h Y v) o.1.1 (by rw [ry_hv v0]; exact o.1.2 v.toNat (by omega))
    have w63 := p_wsL (f := ry_h Y v) 6
    have e64 : (2 : Nat) ^ 6 = 64 := by decide
    rw [e64] at w63
    refine c_hand (v := v.toNat) M3 (by omega) (by omega) hwh (fun h4 V4 M4 e24 oth => ?_)
    show HJ 236 21 _ [] h4 Q
    refine s_wl21_ M4 rfl rfl qr rfl qv rfl qk rfl qq ?_
    refine c_swW (lv := lv_args 0 [.ref m]) M4 rfl hwk l v0 v1 e24 oth (fun h5 F5 V5 M5 I5 fw X wo rn => ?_)
    show HJ 236 25 _ [] h5 Q
    have e17 : F3 17 = (ps_n (ry_s Y) : Int) := by
      have := rn.1
      rw [I5.1 17 (by decide)] at this
      exact this
    have s16 := o.2.1.2.1
    refine s_wl25_ M5 rfl rfl qk rfl qq (fun x1 q1 x4 q4 _ _ => ?_)
    refine c_in M5 qk q1 q4 (fun z2 hz => ?_)
    show HJ 236 36 _ [.int z2] h5 Q
    have kk : z2.toInt ≠ 0 → 0 ≤ k ∧ k < ((wk_all (ry_s Y) (ry_h Y v)).1 : Int) := fun c2 => by
      rcases hz with hz | hz
      · omega
      · exact absurd hz.1 c2
    have yes : ∀ x : Int32, z2.toInt ≠ 0 → x.toInt = wa_v (ry_s Y) (wk_all (ry_s Y) (ry_h Y v)) k.toNat q → Q (some (.int x)) h5 := fun x c2 e => g x h5 F5 V5 G3 M5 (Or.inr ⟨⟨rr, ⟨v0, v1⟩, kk c2⟩, e⟩)
    have X' := fun c2 => X k.toNat (by have := kk c2; omega)
    have wo' := fun c2 => wo.2 k.toNat (by have := kk c2; omega)
    have rn' := fun c2 => rn.2 (V5 27 k.toNat).toNat (by have := (X' c2).1; omega)
    refine s_wl36_ (z := z2.toInt) M5 rfl rfl qk rfl qq rfl (fun c2 => by have := kk c2; omega) (fun c2 => by have := (X' c2).1; omega) (fun x e _ c2 _ _ d0 d1 d2 d3 d4 => yes x c2 ?_) (fun x e _ c2 _ _ d0 d1 d2 d3 d4 _ _ => yes x c2 ?_) (fun x e _ c2 _ _ d0 d1 d2 d3 => yes x c2 ?_) (fun x e _ c2 _ _ d0 d1 d2 => yes x c2 ?_) (fun x e _ c2 _ _ d0 d1 => yes x c2 ?_) (fun x e _ c2 _ _ d0 => yes x c2 ?_) (fun x e c2 => g x h5 F5 V5 G3 M5 (Or.inl ⟨fun w => ?_, e⟩))
    · rw [wa_v, if_neg d0, if_neg d1, if_neg d2, if_neg d3, if_neg d4]
      exact e
    · rw [wa_v, if_neg d0, if_neg d1, if_neg d2, if_neg d3, if_pos d4]
      exact e.trans (wo' c2).2.2.symm
    · rw [wa_v, if_neg d0, if_neg d1, if_neg d2, if_pos d3]
      exact e.trans (wo' c2).1.symm
    · rw [wa_v, if_neg d0, if_neg d1, if_pos d2, (wo' c2).1]
      exact e.trans (rn' c2).2.2.2.2.1.symm
    · rw [wa_v, if_neg d0, if_pos d1, (wo' c2).1]
      exact e.trans (rn' c2).2.2.1.symm
    · rw [wa_v, if_pos d0, (wo' c2).1]
      exact e.trans (rn' c2).1.symm
    · have := w.2.2
      rcases hz with hz | hz <;> omega
  · rcases hx with hx | hx
    · exact g x h3 F3 V3 G3 M3 (Or.inl ⟨fun w => hx.2 ⟨w.1, w.2.1⟩, q1⟩)
    · omega
end
section
variable {Q : Option Value → MH → Prop} {ρ : Nat → Nat} {h : MH}
theorem c_cwalk {xr xv xk xq : Int32} (hC : CCok c_CC ρ) (ht : TH c_sp ρ h) (n1 : c_PT 1 ρ h) (n15 : c_PT 15 ρ h) (g : ∀ (ρ' : Nat → Nat) (h' : MH) (z : Int32), FQ ρ ρ' c_m102.2.1 h h' → TH c_sp ρ' h' → wa_q (ac_Y h (q_ac h (h_r h 16 0) xr.toInt.toNat)) (0 ≤ xr.toInt ∧ xr.toInt < q_fd h (h_r h 16 0) 5) xv.toInt xk.toInt xq.toInt z.toInt → Q (some (.int z)) h') : HJ 108 0 (lv_args 0 [.ref 16, .int xr, .int xv, .int xk, .int xq]) [] h Q := by
  have h16 := n15.1
  have M := RX.start h
  have no : ∀ lv, ¬ wa_in (ac_Y h (q_ac h (h_r h 16 0) xr.toInt.toNat)) (0 ≤ xr.toInt ∧ xr.toInt < q_fd h (h_r h 16 0) 5) xv.toInt xk.toInt → HJ 108 35 lv [] h Q := fun lv c => by
    refine hM_ic (n := (-1)) rfl (by decide) rfl (fun x q => ?_)
    exact hI_ri rfl rfl (g ρ h x (FQ.refl _ _ _) ht (Or.inl ⟨c, q⟩))
  refine hI_al (k := 0) rfl rfl rfl ?_
  refine hI_il (k := 1) rfl rfl rfl ?_
  refine hM_iv (MX.start (W := []) ht h16) (by decide) rfl rfl (by decide) (as := [.int xr]) (r := []) rfl rfl (by decide +kernel) rfl (by decide +kernel) rfl rfl rfl rfl rfl ?_
  refine r_pastOf ht h16 (fun p hp => ?_)
  show HJ 108 5 _ [.ref p] h Q
  refine hI_as2 (k := 5) rfl (by decide +kernel) rfl ?_
  refine hI_al2 (k := 5) rfl rfl rfl ?_
  rcases hp with ⟨r0, r1, ep⟩ | ⟨hb, ep⟩
  · obtain ⟨r4, p0, bk, fp⟩ := pb_at ht n15 r0 r1
    have pl := (n15.2.1 xr.toInt.toNat r4 p0).1
    obtain ⟨n, n40, o⟩ := ry_15 ht n15 xr.toInt.toNat (by omega)
    rw [← ep] at p0 bk fp pl
    have cp := t_spec ht (by decide) (rfl : c_sp[29]? = some _) fp
    have ok := pa_okT ht n1 fp pl
    have es : (h_i h p 11).toInt + 1 = (ry_v (ac_Y h (q_ac h (h_r h 16 0) xr.toInt.toNat)) : Int) := bk.1.1
    generalize ac_Y h (q_ac h (h_r h 16 0) xr.toInt.toNat) = Y at *
    refine hI_nl (t := 35) rfl (by decide) rfl (Or.inr (cp.2.2.1 rfl)) (fun z => absurd z p0) (fun _ => ?_)
    refine hI_al2 (k := 5) rfl rfl rfl ?_
    refine hI_il (k := 2) rfl rfl rfl ?_
    refine hM_iv (MX.start (W := []) ht fp) (by decide) rfl rfl (by decide) (as := [.int xv]) (r := []) rfl rfl (by decide +kernel) rfl (by decide +kernel) rfl rfl rfl rfl rfl ?_
    refine k_has M ok.1.1 rfl (fun z hz => ?_)
    show HJ 108 18 _ [.int z] h Q
    refine hM_zeq (off := 17) (t := 35) rfl (zx := z.toInt) rfl (by decide) rfl (fun c => no _ (fun w => ?_)) (fun c => ?_)
    · obtain ⟨-, w1, -⟩ := w
      rcases hz with hz | hz <;> omega
    obtain ⟨-, v0, v1⟩ := hz.resolve_right (fun w => c w.1)
    have wi := wk_allI (S := ry_s Y) (f := ry_h Y xv.toInt) o.1.1 (by rw [ry_hv v0]; exact o.1.2 xv.toInt.toNat (by omega))
    have w63 := p_wsL (f := ry_h Y xv.toInt) 6
    have e64 : (2 : Nat) ^ 6 = 64 := by decide
    rw [e64] at w63
    have vv := bk.1.2
    refine hI_il (k := 3) rfl rfl rfl ?_
    refine hM_zlt (off := 13) (t := 35) rfl (zx := xk.toInt) rfl (by decide) rfl (fun c2 => no _ (fun w => ?_)) (fun k0 => ?_)
    · have := w.2.2
      omega
    refine hI_il (k := 3) rfl rfl rfl ?_
    refine hI_al2 (k := 5) rfl rfl rfl ?_
    refine hI_il (k := 2) rfl rfl rfl ?_
    refine hM_iv (MX.start (W := []) ht fp) (by decide) rfl rfl (by decide) (as := [.int xv]) (r := [.int xk]) rfl rfl (by decide +kernel) rfl (by decide +kernel) rfl rfl rfl rfl rfl ?_
    refine k_so (s := ry_v Y - 1) (sz := fun u => p_ws (ry_h Y (u : Int)) 6) M ok (by show (h_i h p 11).toInt = _; omega) (by omega) (fun u hu => bk.2.1 u (by omega)) rfl (fun xs qs => ?_)
    rw [if_pos (by omega), ← ry_hv v0, ← wi.2] at qs
    show HJ 108 32 _ [.int xs, .int xk] h Q
    refine hM_clt (off := 5) (t := 37) rfl (zx := xk.toInt) rfl qs (by decide) rfl (fun k1 => ?_) (fun c2 => no _ (fun w => ?_))
    · refine hI_al (k := 0) rfl rfl rfl ?_
      refine hI_al2 (k := 5) rfl rfl rfl ?_
      refine hI_il (k := 2) rfl rfl rfl ?_
      refine hM_iv (MX.start (W := []) ht h16) (by decide) rfl rfl (by decide) (as := [.ref p, .int xv]) (r := []) rfl rfl (by decide +kernel) rfl (by decide +kernel) rfl rfl rfl rfl rfl ?_
      refine c_seen (v := xv.toInt) hC ht h16 n1 fp pl bk o rfl v0 (by omega) (fun ρ2 h2 F t2 m1 pb wl e5 wok _ _ => ?_)
      show HJ 108 44 _ [.ref (h_r h 16 5)] h2 Q
      refine hI_pop rfl rfl rfl ?_
      refine hI_il2 (k := 4) rfl rfl rfl ?_
      have h16' : ρ2 16 = 6 := (F.2.1 16 (by rw [h16]; decide)).trans h16
      have k16 : (h_k h2 16).1 = 9 := (t_spec t2 (by decide) (rfl : c_sp[6]? = some _) h16').1
      obtain ⟨kw0, -, -, lw0⟩ := wok.2.1 0 (by decide)
      obtain ⟨kw1, -, -, lw1⟩ := wok.2.1 1 (by decide)
      obtain ⟨kw3, -, -, lw3⟩ := wok.2.1 3 (by decide)
      obtain ⟨y0, y1, y2, y3⟩ := wl.2 xk.toInt.toNat (by omega)
      have a := (wi.1 xk.toInt.toNat (by omega)).1
      obtain ⟨l, I⟩ := pb.2.1.2.2.2.2.2.1
      have bb := I.2.2.2.2 ((wk_all (ry_s Y) (ry_h Y xv.toInt)).2.1 xk.toInt.toNat).toNat (by show _ < ps_n (ry_s Y); omega)
      have t0 : 0 ≤ ps_t (ry_s Y) ((wk_all (ry_s Y) (ry_h Y xv.toInt)).2.1 xk.toInt.toNat).toNat ∧ ps_t (ry_s Y) ((wk_all (ry_s Y) (ry_h Y xv.toInt)).2.1 xk.toInt.toNat).toNat ≤ 127 := bb.2.1
      have yy : 0 ≤ ps_y (ry_s Y) ((wk_all (ry_s Y) (ry_h Y xv.toInt)).2.1 xk.toInt.toNat).toNat := bb.2.2.1.1
      have yes : ∀ x : Int32, x.toInt = wa_v (ry_s Y) (wk_all (ry_s Y) (ry_h Y xv.toInt)) xk.toInt.toNat xq.toInt → Q (some (.int x)) h2 := fun x e => g ρ2 h2 x F t2 (Or.inr ⟨⟨⟨r0, r1⟩, ⟨v0, by omega⟩, k0, k1⟩, e⟩)
      by_cases qd : xq.toInt < 0 ∨ 4 < xq.toInt
      · refine hX_tsd (t := 144) rfl qd (by decide) ?_
        refine hM_ic (n := (-1)) rfl (by decide) rfl (fun x e => ?_)
        refine hI_ri rfl rfl (yes x ?_)
        rw [wa_v, if_neg (by omega), if_neg (by omega), if_neg (by omega), if_neg (by omega), if_neg (by omega)]
        exact e
      have q5 : xq.toInt = 0 ∨ xq.toInt = 1 ∨ xq.toInt = 2 ∨ xq.toInt = 3 ∨ xq.toInt = 4 := by omega
      rcases q5 with qq | qq | qq | qq | qq
      · refine hI_ts (t := 80) (o := 33) rfl qq (by decide) (by decide) rfl (by decide) ?_
        refine hI_al (k := 0) rfl rfl rfl ?_
        refine hI_gr (c := 8) (k := 5) rfl rfl rfl k16 rfl ?_
        rw [e5]
        refine hI_gr (c := 7) (k := 1) rfl rfl rfl wok.1.1 rfl ?_
        refine hI_il (k := 3) rfl rfl rfl ?_
        refine hI_ia (o := h_r h2 (h_r h 16 5) 1) rfl kw1 k0 (by omega) rfl ?_
        refine hM_is0 (as := [.int (h_i h2 (h_r h2 (h_r h 16 5) 1) xk.toInt.toNat)]) (r := []) rfl rfl (by decide +kernel) rfl rfl rfl rfl rfl ?_
        refine k_thIn y1 t0.1 t0.2 yy (fun w qw => ?_)
        show HJ 108 92 _ [.int w] h2 Q
        refine hI_ri rfl rfl (yes w ?_)
        rw [wa_v, if_pos qq]
        exact qw
      · refine hI_ts (t := 93) (o := 46) rfl qq (by decide) (by decide) rfl (by decide) ?_
        refine hI_al (k := 0) rfl rfl rfl ?_
        refine hI_gr (c := 8) (k := 5) rfl rfl rfl k16 rfl ?_
        rw [e5]
        refine hI_gr (c := 7) (k := 1) rfl rfl rfl wok.1.1 rfl ?_
        refine hI_il (k := 3) rfl rfl rfl ?_
        refine hI_ia (o := h_r h2 (h_r h 16 5) 1) rfl kw1 k0 (by omega) rfl ?_
        refine hM_is0 (as := [.int (h_i h2 (h_r h2 (h_r h 16 5) 1) xk.toInt.toNat)]) (r := []) rfl rfl (by decide +kernel) rfl rfl rfl rfl rfl ?_
        refine k_keyIn y1 t0.1 t0.2 yy (fun w qw => ?_)
        show HJ 108 105 _ [.int w] h2 Q
        refine hI_ri rfl rfl (yes w ?_)
        rw [wa_v, if_neg (by omega), if_pos qq]
        exact qw
      · refine hI_ts (t := 106) (o := 59) rfl qq (by decide) (by decide) rfl (by decide) ?_
        refine hI_al2 (k := 5) rfl rfl rfl ?_
        refine hI_gr (c := 3) (k := 0) rfl rfl rfl pb.1.1.1 rfl ?_
        refine hI_al (k := 0) rfl rfl rfl ?_
        refine hI_gr (c := 8) (k := 5) rfl rfl rfl k16 rfl ?_
        rw [e5]
        refine hI_gr (c := 7) (k := 0) rfl rfl rfl wok.1.1 rfl ?_
        refine hI_il (k := 3) rfl rfl rfl ?_
        refine hI_ia (o := h_r h2 (h_r h 16 5) 0) rfl kw0 k0 (by omega) rfl ?_
        have fn2 := (past_ob t2 pb.2.2).1.1
        refine hM_iv (MX.start (W := []) t2 fn2) (by decide) rfl rfl (by decide) (as := [.int (h_i h2 (h_r h2 (h_r h 16 5) 0) xk.toInt.toNat)]) (r := []) rfl rfl (by decide +kernel) rfl (by decide +kernel) rfl rfl rfl rfl rfl ?_
        refine k_rk (S := ps_le (ry_s Y) l) (RX.start h2) (nl_nd pb.1.2.1 I.1) I y0 a.1 a.2 (fun w qw => ?_)
        show HJ 108 123 _ [.int w] h2 Q
        refine hI_ri rfl rfl (yes w ?_)
        rw [wa_v, if_neg (by omega), if_neg (by omega), if_pos qq]
        exact qw
      · refine hI_ts (t := 124) (o := 77) rfl qq (by decide) (by decide) rfl (by decide) ?_
        refine hI_al (k := 0) rfl rfl rfl ?_
        refine hI_gr (c := 8) (k := 5) rfl rfl rfl k16 rfl ?_
        rw [e5]
        refine hI_gr (c := 7) (k := 0) rfl rfl rfl wok.1.1 rfl ?_
        refine hI_il (k := 3) rfl rfl rfl ?_
        refine hI_ia (o := h_r h2 (h_r h 16 5) 0) rfl kw0 k0 (by omega) rfl ?_
        refine hI_ri rfl rfl (yes _ ?_)
        rw [wa_v, if_neg (by omega), if_neg (by omega), if_neg (by omega), if_pos qq]
        exact y0
      · refine hI_ts (t := 134) (o := 87) rfl qq (by decide) (by decide) rfl (by decide) ?_
        refine hI_al (k := 0) rfl rfl rfl ?_
        refine hI_gr (c := 8) (k := 5) rfl rfl rfl k16 rfl ?_
        rw [e5]
        refine hI_gr (c := 7) (k := 3) rfl rfl rfl wok.1.1 rfl ?_
        refine hI_il (k := 3) rfl rfl rfl ?_
        refine hI_ia (o := h_r h2 (h_r h 16 5) 3) rfl kw3 k0 (by omega) rfl ?_
        refine hI_ri rfl rfl (yes _ ?_)
        rw [wa_v, if_neg (by omega), if_neg (by omega), if_neg (by omega), if_neg (by omega), if_pos qq]
        exact y3
    · have := w.2.2
      omega
  · subst ep
    refine hI_nl (t := 35) rfl (by decide) rfl (Or.inl rfl) (fun _ => no _ (fun w => hb w.1)) (fun z => absurd rfl z)
end
-- order, both sides
def or_v (w f : Int) : Int := if f = 0 then w % 128 else w / 128
def or_in (Y : RYt) (row : Prop) (v k : Int) : Prop := row ∧ (0 ≤ v ∧ v < (ry_v Y : Int)) ∧ 0 ≤ k ∧ k < ((wk_all (ry_s Y) (ry_h Y v)).1 : Int)
def or_q (Y : RYt) (row : Prop) (v k f z : Int) : Prop := (¬ or_in Y row v k ∧ z = -1) ∨ (or_in Y row v k ∧ z = or_v (st_so (wt_ (ry_s Y) (wk_all (ry_s Y) (ry_h Y v))) (wk_all (ry_s Y) (ry_h Y v)).1 k.toNat) f)
theorem or_eq {Y : RYt} {row row' : Prop} {v k q y z : Int} (er : row ↔ row') (a : or_q Y row v k q z) (b : or_q Y row' v k q y) : y = z := by
  rcases a with ⟨a1, a2⟩ | ⟨a1, a2⟩
  · rcases b with ⟨-, b2⟩ | ⟨b1, -⟩
    · rw [a2, b2]
    · exact absurd ⟨er.mpr b1.1, b1.2⟩ a1
  · rcases b with ⟨b1, -⟩ | ⟨-, b2⟩
    · exact absurd ⟨er.mp a1.1, a1.2⟩ b1
    · rw [a2, b2]
section
variable {lv : List (Nat × Value)} {Q : Option Value → MH → Prop} {W : List (Nat × Nat)} {ρ : Nat → Nat} {m : Nat} {A : Nat → Nat} {h0 h : MH} {F : Nat → Int} {V : Nat → Nat → Int} {G : Nat → Nat → Int64}
theorem s_or0 {r v k f : Int} (M : MX 49 W ρ m A h0 h F V G) (e0 : m_lk lv 0 = some (.ref m)) {lx1 : Int32} (e1 : m_lk lv 1 = some (.int lx1)) (lq1 : lx1.toInt = r) {lx2 : Int32} (e2 : m_lk lv 2 = some (.int lx2)) (lq2 : lx2.toInt = v) {lx3 : Int32} (e3 : m_lk lv 3 = some (.int lx3)) (lq3 : lx3.toInt = k) {lx4 : Int32} (e4 : m_lk lv 4 = some (.int lx4)) (lq4 : lx4.toInt = f) (hw : d_sub [(49, 0)] W = true)
    (g0 : ∀ h2 : MH, ∀ F2 : Nat → Int, F2 = m_u F 0 (0) → MX 49 W ρ m A h0 h2 F2 V G → HJ 228 0 (lv_args 0 [.ref m, .int lx1, .int lx2]) [] h2 (fun v h' => HJ 235 11 lv (v.toList ++ []) h' Q))
    : HJ 235 0 lv [] h Q := by
  refine hI_al (k := 0) rfl e0 rfl ?_ -- 0
  refine hM_ic (n := 0) rfl (by decide) rfl (fun x1 q1 => ?_) -- 1
  refine hM_pi M (by decide) ok_49 rfl rfl (k := 0) (c := 9) (lo := (-2147483648)) (hi := 2147483647) rfl rfl ⟨by decide, by decide +kernel, rfl⟩ rfl (d_subm hw (by decide +kernel)) q1 (by omega) (by omega) rfl (fun h2 F2 f2 M2 => ?_) -- 2
  refine hI_al (k := 0) rfl e0 rfl ?_ -- 5
  refine hI_il (k := 1) rfl e1 rfl ?_ -- 6
  refine hI_il (k := 2) rfl e2 rfl ?_ -- 7
  refine hM_iv M2 (by decide) rfl rfl (by decide) (as := [.int lx1, .int lx2]) (r := []) rfl rfl (by decide +kernel) rfl (by decide +kernel) rfl rfl rfl rfl rfl ?_ -- 8
  exact g0 h2 F2 f2 M2
theorem s_or11 {r v k f z : Int} (M : MX 49 W ρ m A h0 h F V G) (e0 : m_lk lv 0 = some (.ref m)) {lx1 : Int32} (e1 : m_lk lv 1 = some (.int lx1)) (lq1 : lx1.toInt = r) {lx2 : Int32} (e2 : m_lk lv 2 = some (.int lx2)) (lq2 : lx2.toInt = v) {lx3 : Int32} (e3 : m_lk lv 3 = some (.int lx3)) (lq3 : lx3.toInt = k) {lx4 : Int32} (e4 : m_lk lv 4 = some (.int lx4)) (lq4 : lx4.toInt = f) {sx0 : Int32} (sq0 : sx0.toInt = z) 
    (g0 : z ≠ 0 → HJ 230 0 (lv_args 0 [.ref m, .int lx2]) [] h (fun v h' => HJ 235 21 lv (v.toList ++ []) h' Q))
    (g1 : ∀ x1 : Int32, x1.toInt = (-1) → z = 0 → Q (some (.int x1)) h)
    : HJ 235 11 lv [.int sx0] h Q := by
  refine hM_zne (off := 5) (t := 16) rfl sq0 (by decide) rfl (fun c11 => ?_) (fun c11 => ?_) -- 11
  · refine hI_al (k := 0) rfl e0 rfl ?_ -- 16
    refine hI_il (k := 2) rfl e2 rfl ?_ -- 17
    refine hM_iv M (by decide) rfl rfl (by decide) (as := [.int lx2]) (r := []) rfl rfl (by decide +kernel) rfl (by decide +kernel) rfl rfl rfl rfl rfl ?_ -- 18
    exact g0 c11
  · refine hM_ic (n := (-1)) rfl (by decide) rfl (fun x1 q1 => ?_) -- 14
    refine hI_ri rfl rfl ?_ -- 15
    exact g1 x1 q1 c11
theorem s_or21 {k f : Int} (M : MX 49 W ρ m A h0 h F V G) (e0 : m_lk lv 0 = some (.ref m)) {lx3 : Int32} (e3 : m_lk lv 3 = some (.int lx3)) (lq3 : lx3.toInt = k) {lx4 : Int32} (e4 : m_lk lv 4 = some (.int lx4)) (lq4 : lx4.toInt = f) 
    (g0 : ∀ x1 : Int32, x1.toInt = 0 → ∀ x4 : Int32, x4.toInt = (F 43) - 1 → 0 ≤ F 43 → F 43 ≤ 63 → HJ 186 0 (lv_args 0 [.int lx3, .int x1, .int x4]) [] h (fun v h' => HJ 235 32 lv (v.toList ++ []) h' Q))
    : HJ 235 21 lv [] h Q := by
  refine hI_il (k := 3) rfl e3 rfl ?_ -- 21
  refine hM_ic (n := 0) rfl (by decide) rfl (fun x1 q1 => ?_) -- 22
  refine hI_al (k := 0) rfl e0 rfl ?_ -- 23
  refine hM_gi M (by decide) rfl rfl rfl (k := 43) (c := 9) (lo := 0) (hi := 63) rfl rfl rfl rfl rfl (fun x2 q2 a2 b2 => ?_) -- 24
  refine hM_ic (n := 1) rfl (by decide) rfl (fun x3 q3 => ?_) -- 27
  refine hM_sub rfl q2 q3 (by omega) (by omega) rfl (fun x4 q4 => ?_) -- 28
  refine hM_is0 (as := [.int lx3, .int x1, .int x4]) (r := []) rfl rfl (by decide +kernel) rfl rfl rfl rfl rfl ?_ -- 29
  exact g0 x1 q1 x4 q4 a2 b2
theorem s_or32 {k f z : Int} (M : MX 49 W ρ m A h0 h F V G) (e0 : m_lk lv 0 = some (.ref m)) {lx3 : Int32} (e3 : m_lk lv 3 = some (.int lx3)) (lq3 : lx3.toInt = k) {lx4 : Int32} (e4 : m_lk lv 4 = some (.int lx4)) (lq4 : lx4.toInt = f) {sx0 : Int32} (sq0 : sx0.toInt = z) (k0 : z ≠ 0 → 0 ≤ k ∧ k ≤ 62)
    (g0 : ∀ x1 : Int32, x1.toInt = V 44 (k).toNat → z ≠ 0 → f = 0 → Q (some (.int x1)) h)
    (g1 : ∀ x2 : Int32, x2.toInt = V 45 (k).toNat → z ≠ 0 → f ≠ 0 → Q (some (.int x2)) h)
    (g2 : ∀ x3 : Int32, x3.toInt = (-1) → z = 0 → Q (some (.int x3)) h)
    : HJ 235 32 lv [.int sx0] h Q := by
  refine hM_zne (off := 7) (t := 39) rfl sq0 (by decide) rfl (fun c32 => ?_) (fun c32 => ?_) -- 32
  · refine hI_il2 (k := 4) rfl e4 rfl ?_ -- 39
    refine hM_zeq (off := 12) (t := 53) rfl lq4 (by decide) rfl (fun c41 => ?_) (fun c41 => ?_) -- 41
    · refine hI_al (k := 0) rfl e0 rfl ?_ -- 53
      refine hM_ga M (by decide) rfl rfl (k := 44) (c := 9) rfl rfl rfl (by decide +kernel) rfl ?_ -- 54
      refine hI_il (k := 3) rfl e3 rfl ?_ -- 57
      refine hM_ia M (by decide) (K := 44) (R2 := 78) (L := 64) (H := 64) (lo := (-2147483648)) (hi := 2147483647) rfl (by decide) rfl rfl (fun _ => rfl) rfl lq3 (by omega) (by omega) rfl (fun x1 q1 a1 b1 => ?_) -- 58
      refine hI_ri rfl rfl ?_ -- 59
      exact g0 x1 q1 c32 c41
    · refine hI_al (k := 0) rfl e0 rfl ?_ -- 44
      refine hM_ga M (by decide) rfl rfl (k := 45) (c := 9) rfl rfl rfl (by decide +kernel) rfl ?_ -- 45
      refine hI_il (k := 3) rfl e3 rfl ?_ -- 48
      refine hM_ia M (by decide) (K := 45) (R2 := 79) (L := 64) (H := 64) (lo := (-2147483648)) (hi := 2147483647) rfl (by decide) rfl rfl (fun _ => rfl) rfl lq3 (by omega) (by omega) rfl (fun x2 q2 a2 b2 => ?_) -- 49
      refine hI_go (pc' := 59) (off := 9) rfl (by decide) ?_ -- 50
      refine hI_ri rfl rfl ?_ -- 59
      exact g1 x2 q2 c32 c41
  · refine hM_ic (n := (-1)) rfl (by decide) rfl (fun x3 q3 => ?_) -- 35
    refine hI_go (pc' := 59) (off := 23) rfl (by decide) ?_ -- 36
    refine hI_ri rfl rfl ?_ -- 59
    exact g2 x3 q3 c32
theorem c_morder {Y : RYt} {r v k f : Int} {xr xv xk xf : Int32} (M : MX 49 W ρ m A h0 h F V G) (hw : d_sub g_la W = true) (hw0 : d_sub [(49, 0)] W = true) (hws : d_sub g_so W = true) (qr : xr.toInt = r) (qv : xv.toInt = v) (qk : xk.toInt = k) (qf : xf.toInt = f) (rw_ : p_rw (V 6)) (ok : lay_ok (V 5 0) (V 6) r Y) (g : ∀ (x : Int32) (h' : MH) (F' : Nat → Int) (V' : Nat → Nat → Int) (G' : Nat → Nat → Int64), MX 49 W ρ m A h0 h' F' V' G' → or_q Y (0 ≤ r ∧ r < V 5 0) v k f x.toInt → Q (some (.int x)) h') : HJ 235 0 (lv_args 0 [.ref m, .int xr, .int xv, .int xk, .int xf]) [] h Q := by
  refine s_or0 M rfl rfl qr rfl qv rfl qk rfl qf hw0 (fun h2 F2 f2 M2 => ?_)
  refine c_layOY M2 hw qr qv rw_ ok (fun z h3 F3 V3 G3 M3 hx => ?_)
  show HJ 235 11 _ [.int z] h3 Q
  refine s_or11 (z := z.toInt) M3 rfl rfl qr rfl qv rfl qk rfl qf rfl (fun c => ?_) (fun x q1 c => ?_)
  · obtain ⟨-, ⟨rr, v0, v1⟩, l⟩ := hx.resolve_left (fun y => c y.1)
    obtain ⟨⟨n, n40, o⟩, -⟩ := id l
    have lv := laid_v l
    have wi := wk_allI (S := ry_s Y) (f := ry_h Y v) o.1.1 (by rw [ry_hv v0]; exact o.1.2 v.toNat (by omega))
    have w63 := p_wsL (f := ry_h Y v) 6
    have e64 : (2 : Nat) ^ 6 = 64 := by decide
    rw [e64] at w63
    refine c_sortY M3 hws l v0 v1 qv (fun h5 F5 V5 M5 f43 fo vo wo fw rn T => ?_)
    show HJ 235 21 _ [] h5 Q
    refine s_or21 M5 rfl rfl qk rfl qf (fun x1 q1 x4 q4 _ _ => ?_)
    refine c_in M5 qk q1 q4 (fun z2 hz => ?_)
    show HJ 235 32 _ [.int z2] h5 Q
    have kk : z2.toInt ≠ 0 → 0 ≤ k ∧ k < ((wk_all (ry_s Y) (ry_h Y v)).1 : Int) := fun c2 => by
      rcases hz with hz | hz
      · omega
      · exact absurd hz.1 c2
    have yes : ∀ x : Int32, z2.toInt ≠ 0 → x.toInt = or_v (st_so (wt_ (ry_s Y) (wk_all (ry_s Y) (ry_h Y v))) (wk_all (ry_s Y) (ry_h Y v)).1 k.toNat) f → Q (some (.int x)) h5 := fun x c2 e => g x h5 F5 V5 G3 M5 (Or.inr ⟨⟨rr, ⟨v0, v1⟩, kk c2⟩, e⟩)
    have T' := fun c2 => T k.toNat (by have := kk c2; omega)
    refine s_or32 (z := z2.toInt) M5 rfl rfl qk rfl qf rfl (fun c2 => by have := kk c2; omega) (fun x e c2 d0 => yes x c2 ?_) (fun x e c2 d0 => yes x c2 ?_) (fun x e c2 => g x h5 F5 V5 G3 M5 (Or.inl ⟨fun w => ?_, e⟩))
    · obtain ⟨⟨⟨a0, a1⟩, a2⟩, a3⟩ := T' c2
      rw [or_v, if_pos d0, e, ← a3]
      omega
    · obtain ⟨⟨⟨a0, a1⟩, a2⟩, a3⟩ := T' c2
      rw [or_v, if_neg d0, e, ← a3]
      omega
    · have := w.2.2
      rcases hz with hz | hz <;> omega
  · rcases hx with hx | hx
    · exact g x h3 F3 V3 G3 M3 (Or.inl ⟨fun w => hx.2 ⟨w.1, w.2.1⟩, q1⟩)
    · omega
end
section
variable {Q : Option Value → MH → Prop} {ρ : Nat → Nat} {h : MH}
theorem c_corder {xr xv xk xf : Int32} (hC : CCok c_CC ρ) (ht : TH c_sp ρ h) (n1 : c_PT 1 ρ h) (n15 : c_PT 15 ρ h) (g : ∀ (ρ' : Nat → Nat) (h' : MH) (z : Int32), FQ ρ ρ' c_m102.2.1 h h' → TH c_sp ρ' h' → or_q (ac_Y h (q_ac h (h_r h 16 0) xr.toInt.toNat)) (0 ≤ xr.toInt ∧ xr.toInt < q_fd h (h_r h 16 0) 5) xv.toInt xk.toInt xf.toInt z.toInt → Q (some (.int z)) h') : HJ 107 0 (lv_args 0 [.ref 16, .int xr, .int xv, .int xk, .int xf]) [] h Q := by
  have h16 := n15.1
  have M := RX.start h
  have no : ∀ lv, ¬ or_in (ac_Y h (q_ac h (h_r h 16 0) xr.toInt.toNat)) (0 ≤ xr.toInt ∧ xr.toInt < q_fd h (h_r h 16 0) 5) xv.toInt xk.toInt → HJ 107 35 lv [] h Q := fun lv c => by
    refine hM_ic (n := (-1)) rfl (by decide) rfl (fun x q => ?_)
    exact hI_ri rfl rfl (g ρ h x (FQ.refl _ _ _) ht (Or.inl ⟨c, q⟩))
  refine hI_al (k := 0) rfl rfl rfl ?_
  refine hI_il (k := 1) rfl rfl rfl ?_
  refine hM_iv (MX.start (W := []) ht h16) (by decide) rfl rfl (by decide) (as := [.int xr]) (r := []) rfl rfl (by decide +kernel) rfl (by decide +kernel) rfl rfl rfl rfl rfl ?_
  refine r_pastOf ht h16 (fun p hp => ?_)
  show HJ 107 5 _ [.ref p] h Q
  refine hI_as2 (k := 5) rfl (by decide +kernel) rfl ?_
  refine hI_al2 (k := 5) rfl rfl rfl ?_
  rcases hp with ⟨r0, r1, ep⟩ | ⟨hb, ep⟩
  · obtain ⟨r4, p0, bk, fp⟩ := pb_at ht n15 r0 r1
    have pl := (n15.2.1 xr.toInt.toNat r4 p0).1
    obtain ⟨n, n40, o⟩ := ry_15 ht n15 xr.toInt.toNat (by omega)
    rw [← ep] at p0 bk fp pl
    have cp := t_spec ht (by decide) (rfl : c_sp[29]? = some _) fp
    have ok := pa_okT ht n1 fp pl
    have es : (h_i h p 11).toInt + 1 = (ry_v (ac_Y h (q_ac h (h_r h 16 0) xr.toInt.toNat)) : Int) := bk.1.1
    generalize ac_Y h (q_ac h (h_r h 16 0) xr.toInt.toNat) = Y at *
    refine hI_nl (t := 35) rfl (by decide) rfl (Or.inr (cp.2.2.1 rfl)) (fun z => absurd z p0) (fun _ => ?_)
    refine hI_al2 (k := 5) rfl rfl rfl ?_
    refine hI_il (k := 2) rfl rfl rfl ?_
    refine hM_iv (MX.start (W := []) ht fp) (by decide) rfl rfl (by decide) (as := [.int xv]) (r := []) rfl rfl (by decide +kernel) rfl (by decide +kernel) rfl rfl rfl rfl rfl ?_
    refine k_has M ok.1.1 rfl (fun z hz => ?_)
    show HJ 107 18 _ [.int z] h Q
    refine hM_zeq (off := 17) (t := 35) rfl (zx := z.toInt) rfl (by decide) rfl (fun c => no _ (fun w => ?_)) (fun c => ?_)
    · obtain ⟨-, w1, -⟩ := w
      rcases hz with hz | hz <;> omega
    obtain ⟨-, v0, v1⟩ := hz.resolve_right (fun w => c w.1)
    have wi := wk_allI (S := ry_s Y) (f := ry_h Y xv.toInt) o.1.1 (by rw [ry_hv v0]; exact o.1.2 xv.toInt.toNat (by omega))
    have w63 := p_wsL (f := ry_h Y xv.toInt) 6
    have e64 : (2 : Nat) ^ 6 = 64 := by decide
    rw [e64] at w63
    have vv := bk.1.2
    refine hI_il (k := 3) rfl rfl rfl ?_
    refine hM_zlt (off := 13) (t := 35) rfl (zx := xk.toInt) rfl (by decide) rfl (fun c2 => no _ (fun w => ?_)) (fun k0 => ?_)
    · have := w.2.2
      omega
    refine hI_il (k := 3) rfl rfl rfl ?_
    refine hI_al2 (k := 5) rfl rfl rfl ?_
    refine hI_il (k := 2) rfl rfl rfl ?_
    refine hM_iv (MX.start (W := []) ht fp) (by decide) rfl rfl (by decide) (as := [.int xv]) (r := [.int xk]) rfl rfl (by decide +kernel) rfl (by decide +kernel) rfl rfl rfl rfl rfl ?_
    refine k_so (s := ry_v Y - 1) (sz := fun u => p_ws (ry_h Y (u : Int)) 6) M ok (by show (h_i h p 11).toInt = _; omega) (by omega) (fun u hu => bk.2.1 u (by omega)) rfl (fun xs qs => ?_)
    rw [if_pos (by omega), ← ry_hv v0, ← wi.2] at qs
    show HJ 107 32 _ [.int xs, .int xk] h Q
    refine hM_clt (off := 5) (t := 37) rfl (zx := xk.toInt) rfl qs (by decide) rfl (fun k1 => ?_) (fun c2 => no _ (fun w => ?_))
    · have fw := (th_rf ht (R := 6) (by decide) rfl h16 (k := 5) (R2 := 16) rfl (fun z => by cases z)).2
      have k16 : (h_k h 16).1 = 9 := (t_spec ht (by decide) (rfl : c_sp[6]? = some _) h16).1
      have kwa : (h_k h (h_r h 16 5)).1 = 8 := (t_spec ht (by decide) (rfl : c_sp[16]? = some _) fw).1
      refine hI_al (k := 0) rfl rfl rfl ?_
      refine hI_gr (c := 8) (k := 5) rfl rfl rfl k16 rfl ?_
      refine hI_gr (c := 7) (k := 1) rfl rfl rfl kwa rfl ?_
      refine hI_al (k := 0) rfl rfl rfl ?_
      refine hI_al2 (k := 5) rfl rfl rfl ?_
      refine hI_il (k := 2) rfl rfl rfl ?_
      refine hM_iv (MX.start (W := []) ht h16) (by decide) rfl rfl (by decide) (as := [.ref p, .int xv]) (r := [.ref (h_r h (h_r h 16 5) 1)]) rfl rfl (by decide +kernel) rfl (by decide +kernel) rfl rfl rfl rfl rfl ?_
      refine c_seen (v := xv.toInt) hC ht h16 n1 fp pl bk o rfl v0 (by omega) (fun ρ2 h2 F t2 m1 pb wl e5 wok so e1 => ?_)
      show HJ 107 51 _ [.ref (h_r h 16 5), .ref (h_r h (h_r h 16 5) 1)] h2 Q
      rw [← e1]
      obtain ⟨kw4, -, -, lw4⟩ := wok.2.1 4 (by decide)
      obtain ⟨kw1, -, -, lw1⟩ := wok.2.1 1 (by decide)
      obtain ⟨⟨s0, s1⟩, sw⟩ := so xk.toInt.toNat (by omega)
      have s0 : 0 ≤ (h_i h2 (h_r h2 (h_r h 16 5) 4) xk.toInt.toNat).toInt := s0
      have s1 : (h_i h2 (h_r h2 (h_r h 16 5) 4) xk.toInt.toNat).toInt < ((wk_all (ry_s Y) (ry_h Y xv.toInt)).1 : Int) := s1
      refine hI_gr (c := 7) (k := 4) rfl rfl rfl wok.1.1 rfl ?_
      refine hI_il (k := 3) rfl rfl rfl ?_
      refine hI_ia (o := h_r h2 (h_r h 16 5) 4) rfl kw4 k0 (by omega) rfl ?_
      refine hI_ia (o := h_r h2 (h_r h 16 5) 1) rfl kw1 s0 (by omega) rfl ?_
      have y1 := (wl.2 (h_i h2 (h_r h2 (h_r h 16 5) 4) xk.toInt.toNat).toInt.toNat (by omega)).2.1
      have y1 : (h_i h2 (h_r h2 (h_r h 16 5) 1) (h_i h2 (h_r h2 (h_r h 16 5) 4) xk.toInt.toNat).toInt.toNat).toInt = st_so (wt_ (ry_s Y) (wk_all (ry_s Y) (ry_h Y xv.toInt))) (wk_all (ry_s Y) (ry_h Y xv.toInt)).1 xk.toInt.toNat := Eq.trans y1 sw
      obtain ⟨l, I⟩ := bk.2.2.2.2.2.1
      have pos : 0 ≤ st_so (wt_ (ry_s Y) (wk_all (ry_s Y) (ry_h Y xv.toInt))) (wk_all (ry_s Y) (ry_h Y xv.toInt)).1 xk.toInt.toNat := st_soP (P := fun z => 0 ≤ z) _ (fun i hi => by
        have a := (wi.1 i hi).1
        have b := I.2.2.2.2 ((wk_all (ry_s Y) (ry_h Y xv.toInt)).2.1 i).toNat (by show _ < ps_n (ry_s Y); omega)
        have b1 : 0 ≤ ps_t (ry_s Y) ((wk_all (ry_s Y) (ry_h Y xv.toInt)).2.1 i).toNat := b.2.1.1
        have b2 : 0 ≤ ps_y (ry_s Y) ((wk_all (ry_s Y) (ry_h Y xv.toInt)).2.1 i).toNat := b.2.2.1.1
        show 0 ≤ 128 * ps_y (ry_s Y) ((wk_all (ry_s Y) (ry_h Y xv.toInt)).2.1 i).toNat + ps_t (ry_s Y) ((wk_all (ry_s Y) (ry_h Y xv.toInt)).2.1 i).toNat
        omega) xk.toInt.toNat (by omega)
      have yes : ∀ x : Int32, x.toInt = or_v (st_so (wt_ (ry_s Y) (wk_all (ry_s Y) (ry_h Y xv.toInt))) (wk_all (ry_s Y) (ry_h Y xv.toInt)).1 xk.toInt.toNat) xf.toInt → Q (some (.int x)) h2 := fun x e => g ρ2 h2 x F t2 (Or.inr ⟨⟨⟨r0, r1⟩, ⟨v0, by omega⟩, k0, k1⟩, e⟩)
      generalize h_i h2 (h_r h2 (h_r h 16 5) 1) (h_i h2 (h_r h2 (h_r h 16 5) 4) xk.toInt.toNat).toInt.toNat = xw at y1 ⊢
      generalize st_so (wt_ (ry_s Y) (wk_all (ry_s Y) (ry_h Y xv.toInt))) (wk_all (ry_s Y) (ry_h Y xv.toInt)).1 xk.toInt.toNat = W at y1 pos yes
      have yw : xw.toInt = 128 * (W / 128) + W % 128 := by omega
      refine hI_is2 (k := 6) rfl (by decide +kernel) rfl ?_
      refine hI_il2 (k := 4) rfl rfl rfl ?_
      refine hM_zeq (off := 11) (t := 72) rfl (zx := xf.toInt) rfl (by decide) rfl (fun c => ?_) (fun c => ?_)
      · refine hI_il2 (k := 6) rfl rfl rfl ?_
        refine hM_is0 (as := [.int xw]) (r := []) rfl rfl (by decide +kernel) rfl rfl rfl rfl rfl ?_
        refine k_thIn yw (by omega) (by omega) (by omega) (fun x qx => ?_)
        show HJ 107 77 _ [.int x] h2 Q
        exact hI_ri rfl rfl (yes x (by rw [or_v, if_pos c]; exact qx))
      · refine hI_il2 (k := 6) rfl rfl rfl ?_
        refine hM_is0 (as := [.int xw]) (r := []) rfl rfl (by decide +kernel) rfl rfl rfl rfl rfl ?_
        refine k_keyIn yw (by omega) (by omega) (by omega) (fun x qx => ?_)
        show HJ 107 69 _ [.int x] h2 Q
        refine hI_go (pc' := 77) (off := 8) rfl (by decide) ?_
        exact hI_ri rfl rfl (yes x (by rw [or_v, if_neg c]; exact qx))
    · have := w.2.2
      omega
  · subst ep
    refine hI_nl (t := 35) rfl (by decide) rfl (Or.inl rfl) (fun _ => no _ (fun w => hb w.1)) (fun z => absurd rfl z)
end
def w_so : List (Nat × Nat) := g_so ++ w_st
-- below, both sides
def dp_in (Y : RYt) (row : Prop) (v : Int) : Prop := row ∧ 0 ≤ v ∧ v < (ry_v Y : Int)
def bl_q (Y : RYt) (row : Prop) (v k z : Int) : Prop := (¬ dp_in Y row v ∧ z = -1) ∨ (dp_in Y row v ∧ z = (cn_b (wt_ (ry_s Y) (wk_all (ry_s Y) (ry_h Y v))) (128 * k) (wk_all (ry_s Y) (ry_h Y v)).1 : Int))
theorem bl_eq {Y : RYt} {row row' : Prop} {v t y z : Int} (er : row ↔ row') (a : bl_q Y row v t z) (b : bl_q Y row' v t y) : y = z := by
  rcases a with ⟨a1, a2⟩ | ⟨a1, a2⟩
  · rcases b with ⟨-, b2⟩ | ⟨b1, -⟩
    · rw [a2, b2]
    · exact absurd ⟨er.mpr b1.1, b1.2⟩ a1
  · rcases b with ⟨b1, -⟩ | ⟨-, b2⟩
    · exact absurd ⟨er.mp a1.1, a1.2⟩ b1
    · rw [a2, b2]
theorem cn_L {f : Nat → Int} {b : Int} : ∀ n, cn_b f b n ≤ n
  | 0 => Nat.le_refl _
  | n + 1 => by
    have := cn_L (f := f) (b := b) n
    rw [cn_b]
    split <;> omega
section
variable {lv : List (Nat × Value)} {Q : Option Value → MH → Prop} {h0 h : MH} {H : Nat → Nat → Int}
theorem r_hb0 {wa : Nat} {k : Int} (M : RX h0 h H) (e0 : m_lk lv 0 = some (.ref wa)) {lx1 : Int32} (e1 : m_lk lv 1 = some (.int lx1)) (lq1 : lx1.toInt = k) 
    (g0 : ∀ x1 : Int32, x1.toInt = 0 → ∀ x3 : Int32, x3.toInt = 0 → ∀ lv4 : List (Nat × Value), m_lk lv4 0 = some (.ref wa) → m_lk lv4 1 = some (.int lx1) → m_lk lv4 2 = some (.int x1) → m_lk lv4 3 = some (.int x3) → HJ 113 4 lv4 [] h Q)
    : HJ 113 0 lv [] h Q := by
  refine hM_ic (n := 0) rfl (by decide) rfl (fun x1 q1 => ?_) -- 0
  refine hM_si (k := 2) rfl (by decide +kernel) rfl (fun lv2 e2_2 u2 => ?_) -- 1
  have e2_0 := u2 0 _ (by decide) (Or.inl rfl) e0
  have e2_1 := u2 1 _ (by decide) (Or.inl rfl) e1
  refine hM_ic (n := 0) rfl (by decide) rfl (fun x3 q3 => ?_) -- 2
  refine hM_si (k := 3) rfl (by decide +kernel) rfl (fun lv4 e4_3 u4 => ?_) -- 3
  have e4_0 := u4 0 _ (by decide) (Or.inl rfl) e2_0
  have e4_1 := u4 1 _ (by decide) (Or.inl rfl) e2_1
  have e4_2 := u4 2 _ (by decide) (Or.inl rfl) e2_2
  exact g0 x1 q1 x3 q3 lv4 e4_0 e4_1 e4_2 e4_3
theorem r_hb4 {wa : Nat} {k n i : Int} (M : RX h0 h H) (e0 : m_lk lv 0 = some (.ref wa)) {lx1 : Int32} (e1 : m_lk lv 1 = some (.int lx1)) (lq1 : lx1.toInt = k) {lx2 : Int32} (e2 : m_lk lv 2 = some (.int lx2)) (lq2 : lx2.toInt = n) {lx3 : Int32} (e3 : m_lk lv 3 = some (.int lx3)) (lq3 : lx3.toInt = i) (i0 : 0 ≤ i) (w63 : H wa 8 ≤ 63) (hk0 : (h_k h0 wa).1 = 8) (ha0 : (h_k h0 (h_r h0 wa 1)).1 = 20) (hl0 : 63 ≤ ((h_k h0 (h_r h0 wa 1)).2 : Int))
    (g0 : i ≥ H wa 8 → Q (some (.int lx2)) h)
    (g1 : ∀ x2 : Int32, x2.toInt = H (h_r h0 wa 1) (i).toNat → i < H wa 8 → HJ 78 0 (lv_args 0 [.int x2]) [] h (fun v h' => HJ 113 21 lv (v.toList ++ []) h' Q))
    : HJ 113 4 lv [] h Q := by
  refine hI_il (k := 3) rfl e3 rfl ?_ -- 4
  refine hI_al (k := 0) rfl e0 rfl ?_ -- 5
  refine hR_gi (c := 7) (k := 8) M hk0 rfl rfl rfl rfl (fun x1 q1 => ?_) -- 6
  have gb1 : -2147483648 ≤ H wa 8 ∧ H wa 8 ≤ 2147483647 := by rw [← q1]; exact g_iT _
  refine hM_cge (off := 25) (t := 34) rfl lq3 q1 (by decide) rfl (fun c9 => ?_) (fun c9 => ?_) -- 9
  · refine hI_il (k := 2) rfl e2 rfl ?_ -- 34
    refine hI_ri rfl rfl ?_ -- 35
    exact g0 c9
  · refine hI_al (k := 0) rfl e0 rfl ?_ -- 12
    refine hR_gr (c := 7) (k := 1) M hk0 rfl rfl rfl rfl ?_ -- 13
    refine hI_il (k := 3) rfl e3 rfl ?_ -- 16
    refine hR_ia M ha0 lq3 (by omega) (by omega) rfl rfl (fun x2 q2 => ?_) -- 17
    have gb2 : -2147483648 ≤ H (h_r h0 wa 1) (i).toNat ∧ H (h_r h0 wa 1) (i).toNat ≤ 2147483647 := by rw [← q2]; exact g_iT _
    refine hM_is0 (as := [.int x2]) (r := []) rfl rfl (by decide +kernel) rfl rfl rfl rfl rfl ?_ -- 18
    exact g1 x2 q2 c9
theorem r_hb21 {wa : Nat} {k n i z : Int} (M : RX h0 h H) (e0 : m_lk lv 0 = some (.ref wa)) {lx1 : Int32} (e1 : m_lk lv 1 = some (.int lx1)) (lq1 : lx1.toInt = k) {lx2 : Int32} (e2 : m_lk lv 2 = some (.int lx2)) (lq2 : lx2.toInt = n) {lx3 : Int32} (e3 : m_lk lv 3 = some (.int lx3)) (lq3 : lx3.toInt = i) {sx0 : Int32} (sq0 : sx0.toInt = z) (i0 : 0 ≤ i) (i1 : i ≤ 62) (n0 : 0 ≤ n) (n1 : n ≤ 62)
    (g0 : ∀ x1 : Int32, x1.toInt = i + 1 → ∀ lv1 : List (Nat × Value), m_lk lv1 0 = some (.ref wa) → m_lk lv1 1 = some (.int lx1) → m_lk lv1 2 = some (.int lx2) → m_lk lv1 3 = some (.int x1) → z ≥ k → HJ 113 4 lv1 [] h Q)
    (g1 : ∀ x2 : Int32, x2.toInt = n + 1 → ∀ x3 : Int32, x3.toInt = i + 1 → ∀ lv3 : List (Nat × Value), m_lk lv3 0 = some (.ref wa) → m_lk lv3 1 = some (.int lx1) → m_lk lv3 2 = some (.int x2) → m_lk lv3 3 = some (.int x3) → z < k → HJ 113 4 lv3 [] h Q)
    : HJ 113 21 lv [.int sx0] h Q := by
  refine hI_il (k := 1) rfl e1 rfl ?_ -- 21
  refine hM_cge (off := 6) (t := 28) rfl sq0 lq1 (by decide) rfl (fun c22 => ?_) (fun c22 => ?_) -- 22
  · refine hM_inc (k := 3) (z := 1) rfl e3 lq3 (by decide) (by omega) (by omega) (by decide +kernel) rfl (fun lv1 x1 q1 e1_3 u1 => ?_) -- 28
    have e1_0 := u1 0 _ (by decide) (Or.inl rfl) e0
    have e1_1 := u1 1 _ (by decide) (Or.inl rfl) e1
    have e1_2 := u1 2 _ (by decide) (Or.inl rfl) e2
    refine hI_go (pc' := 4) (off := (-27)) rfl (by decide) ?_ -- 31
    exact g0 x1 q1 lv1 e1_0 e1_1 e1_2 e1_3 c22
  · refine hM_inc (k := 2) (z := 1) rfl e2 lq2 (by decide) (by omega) (by omega) (by decide +kernel) rfl (fun lv2 x2 q2 e2_2 u2 => ?_) -- 25
    have e2_0 := u2 0 _ (by decide) (Or.inl rfl) e0
    have e2_1 := u2 1 _ (by decide) (Or.inl rfl) e1
    have e2_3 := u2 3 _ (by decide) (Or.inl rfl) e3
    refine hM_inc (k := 3) (z := 1) rfl e2_3 lq3 (by decide) (by omega) (by omega) (by decide +kernel) rfl (fun lv3 x3 q3 e3_3 u3 => ?_) -- 28
    have e3_0 := u3 0 _ (by decide) (Or.inl rfl) e2_0
    have e3_1 := u3 1 _ (by decide) (Or.inl rfl) e2_1
    have e3_2 := u3 2 _ (by decide) (Or.inl rfl) e2_2
    refine hI_go (pc' := 4) (off := (-27)) rfl (by decide) ?_ -- 31
    exact g1 x2 q2 x3 q3 lv3 e3_0 e3_1 e3_2 e3_3 c22
theorem l_hb {wa : Nat} {S : PSt} {O : WKt} {k : Int} {xk : Int32} (M : RX h0 h H) (ok : wl_ok h0 wa) (wo : wl_of h0 H wa S O) (n63 : O.1 ≤ 63) (st : ∀ i, i < O.1 → (0 ≤ ps_t S (O.2.1 i).toNat ∧ ps_t S (O.2.1 i).toNat ≤ 127) ∧ 0 ≤ ps_y S (O.2.1 i).toNat) (qk : xk.toInt = k) (g : ∀ x : Int32, x.toInt = (cn_b (wt_ S O) (128 * k) O.1 : Int) → Q (some (.int x)) h) : ∀ (d i : Nat) (lv : List (Nat × Value)) (xn xi : Int32), i + d = O.1 → xn.toInt = (cn_b (wt_ S O) (128 * k) i : Int) → xi.toInt = (i : Int) → m_lk lv 0 = some (.ref wa) → m_lk lv 1 = some (.int xk) → m_lk lv 2 = some (.int xn) → m_lk lv 3 = some (.int xi) → HJ 113 4 lv [] h Q := by
  have w8 := wo.1
  obtain ⟨k1, -, -, l1⟩ := ok.2.1 1 (by decide)
  intro d
  induction d with
  | zero =>
    intro i lv xn xi hd qn qi e0 e1 e2 e3
    have ei : i = O.1 := by omega
    subst ei
    exact r_hb4 M e0 e1 qk e2 qn e3 qi (by omega) (by omega) ok.1.1 k1 l1 (fun _ => g xn qn) (fun _ _ c => absurd c (by omega))
  | succ d ih =>
    intro i lv xn xi hd qn qi e0 e1 e2 e3
    obtain ⟨y0, y1, y2, y3⟩ := wo.2 i (by omega)
    obtain ⟨⟨t0, t1⟩, yy⟩ := st i (by omega)
    have cl := cn_L (f := wt_ S O) (b := 128 * k) i
    have ew : wt_ S O i = 128 * ps_y S (O.2.1 i).toNat + ps_t S (O.2.1 i).toNat := rfl
    refine r_hb4 M e0 e1 qk e2 qn e3 qi (by omega) (by omega) ok.1.1 k1 l1 (fun c => absurd c (by omega)) (fun x2 q2 c => ?_)
    rw [Int.toNat_natCast] at q2
    refine k_keyIn (q2.trans y1) t0 t1 yy (fun w qw => ?_)
    show HJ 113 21 lv [.int w] h Q
    refine r_hb21 M e0 e1 qk e2 qn e3 qi qw (by omega) (by omega) (by omega) (by omega) (fun x q lv1 a0 a1 a2 a3 c => ?_) (fun x3 q3 x q lv1 a0 a1 a2 a3 c => ?_)
    · refine ih (i + 1) lv1 xn x (by omega) ?_ (by omega) a0 a1 a2 a3
      rw [cn_b, if_neg (by omega)]
      exact qn
    · refine ih (i + 1) lv1 x3 x (by omega) ?_ (by omega) a0 a1 a2 a3
      rw [cn_b, if_pos (by omega)]
      omega
theorem k_hb {wa : Nat} {S : PSt} {O : WKt} {k : Int} {xk : Int32} (M : RX h0 h H) (ok : wl_ok h0 wa) (wo : wl_of h0 H wa S O) (n63 : O.1 ≤ 63) (st : ∀ i, i < O.1 → (0 ≤ ps_t S (O.2.1 i).toNat ∧ ps_t S (O.2.1 i).toNat ≤ 127) ∧ 0 ≤ ps_y S (O.2.1 i).toNat) (qk : xk.toInt = k) (g : ∀ x : Int32, x.toInt = (cn_b (wt_ S O) (128 * k) O.1 : Int) → Q (some (.int x)) h) : HJ 113 0 (lv_args 0 [.ref wa, .int xk]) [] h Q :=
  r_hb0 M rfl rfl qk (fun x1 q1 x3 q3 lv4 a0 a1 a2 a3 => l_hb M ok wo n63 st qk g O.1 0 lv4 x1 x3 (by omega) q1 q3 a0 a1 a2 a3)
end
section
variable {lv : List (Nat × Value)} {Q : Option Value → MH → Prop} {W : List (Nat × Nat)} {ρ : Nat → Nat} {m : Nat} {A : Nat → Nat} {h0 h : MH} {F : Nat → Int} {V : Nat → Nat → Int} {G : Nat → Nat → Int64}
theorem s_be0_ {r v k : Int} (M : MX 49 W ρ m A h0 h F V G) (e0 : m_lk lv 0 = some (.ref m)) {lx1 : Int32} (e1 : m_lk lv 1 = some (.int lx1)) (lq1 : lx1.toInt = r) {lx2 : Int32} (e2 : m_lk lv 2 = some (.int lx2)) (lq2 : lx2.toInt = v) {lx3 : Int32} (e3 : m_lk lv 3 = some (.int lx3)) (lq3 : lx3.toInt = k) (hw : d_sub [(49, 0)] W = true)
    (g0 : ∀ h2 : MH, ∀ F2 : Nat → Int, F2 = m_u F 0 (0) → MX 49 W ρ m A h0 h2 F2 V G → HJ 228 0 (lv_args 0 [.ref m, .int lx1, .int lx2]) [] h2 (fun v h' => HJ 270 11 lv (v.toList ++ []) h' Q))
    : HJ 270 0 lv [] h Q := by
  refine hI_al (k := 0) rfl e0 rfl ?_ -- 0
  refine hM_ic (n := 0) rfl (by decide) rfl (fun x1 q1 => ?_) -- 1
  refine hM_pi M (by decide) ok_49 rfl rfl (k := 0) (c := 9) (lo := (-2147483648)) (hi := 2147483647) rfl rfl ⟨by decide, by decide +kernel, rfl⟩ rfl (d_subm hw (by decide +kernel)) q1 (by omega) (by omega) rfl (fun h2 F2 f2 M2 => ?_) -- 2
  refine hI_al (k := 0) rfl e0 rfl ?_ -- 5
  refine hI_il (k := 1) rfl e1 rfl ?_ -- 6
  refine hI_il (k := 2) rfl e2 rfl ?_ -- 7
  refine hM_iv M2 (by decide) rfl rfl (by decide) (as := [.int lx1, .int lx2]) (r := []) rfl rfl (by decide +kernel) rfl (by decide +kernel) rfl rfl rfl rfl rfl ?_ -- 8
  exact g0 h2 F2 f2 M2
theorem s_be11_ {r v k z : Int} (M : MX 49 W ρ m A h0 h F V G) (e0 : m_lk lv 0 = some (.ref m)) {lx1 : Int32} (e1 : m_lk lv 1 = some (.int lx1)) (lq1 : lx1.toInt = r) {lx2 : Int32} (e2 : m_lk lv 2 = some (.int lx2)) (lq2 : lx2.toInt = v) {lx3 : Int32} (e3 : m_lk lv 3 = some (.int lx3)) (lq3 : lx3.toInt = k) {sx0 : Int32} (sq0 : sx0.toInt = z) 
    (g0 : z ≠ 0 → HJ 230 0 (lv_args 0 [.ref m, .int lx2]) [] h (fun v h' => HJ 270 21 lv (v.toList ++ []) h' Q))
    (g1 : ∀ x1 : Int32, x1.toInt = (-1) → z = 0 → Q (some (.int x1)) h)
    : HJ 270 11 lv [.int sx0] h Q := by
  refine hM_zne (off := 5) (t := 16) rfl sq0 (by decide) rfl (fun c11 => ?_) (fun c11 => ?_) -- 11
  · refine hI_al (k := 0) rfl e0 rfl ?_ -- 16
    refine hI_il (k := 2) rfl e2 rfl ?_ -- 17
    refine hM_iv M (by decide) rfl rfl (by decide) (as := [.int lx2]) (r := []) rfl rfl (by decide +kernel) rfl (by decide +kernel) rfl rfl rfl rfl rfl ?_ -- 18
    exact g0 c11
  · refine hM_ic (n := (-1)) rfl (by decide) rfl (fun x1 q1 => ?_) -- 14
    refine hI_ri rfl rfl ?_ -- 15
    exact g1 x1 q1 c11
theorem s_be21_ {k : Int} (M : MX 49 W ρ m A h0 h F V G) (e0 : m_lk lv 0 = some (.ref m)) {lx3 : Int32} (e3 : m_lk lv 3 = some (.int lx3)) (lq3 : lx3.toInt = k) 
    (g0 : ∀ x1 : Int32, x1.toInt = 0 → ∀ lv2 : List (Nat × Value), m_lk lv2 0 = some (.ref m) → m_lk lv2 3 = some (.int lx3) → m_lk lv2 4 = some (.int x1) → HJ 270 24 lv2 [] h Q)
    : HJ 270 21 lv [] h Q := by
  refine hM_ic (n := 0) rfl (by decide) rfl (fun x1 q1 => ?_) -- 21
  refine hM_si2 (k := 4) rfl (by decide +kernel) rfl (fun lv2 e2_4 u2 => ?_) -- 22
  have e2_0 := u2 0 _ (by decide) (Or.inl rfl) e0
  have e2_3 := u2 3 _ (by decide) (Or.inl rfl) e3
  exact g0 x1 q1 lv2 e2_0 e2_3 e2_4
theorem s_be24_ {k i : Int} (M : MX 49 W ρ m A h0 h F V G) (e0 : m_lk lv 0 = some (.ref m)) {lx3 : Int32} (e3 : m_lk lv 3 = some (.int lx3)) (lq3 : lx3.toInt = k) {lx4 : Int32} (e4 : m_lk lv 4 = some (.int lx4)) (lq4 : lx4.toInt = i) (i0 : 0 ≤ i) (w63 : F 43 ≤ 63)
    (g0 : 0 ≤ F 43 → F 43 ≤ 63 → i ≥ F 43 → Q (some (.int lx4)) h)
    (g1 : 0 ≤ F 43 → F 43 ≤ 63 → i < F 43 → V 45 (i).toNat ≥ k → Q (some (.int lx4)) h)
    (g2 : ∀ x3 : Int32, x3.toInt = i + 1 → ∀ lv3 : List (Nat × Value), m_lk lv3 0 = some (.ref m) → m_lk lv3 3 = some (.int lx3) → m_lk lv3 4 = some (.int x3) → 0 ≤ F 43 → F 43 ≤ 63 → i < F 43 → V 45 (i).toNat < k → HJ 270 24 lv3 [] h Q)
    : HJ 270 24 lv [] h Q := by
  refine hI_il2 (k := 4) rfl e4 rfl ?_ -- 24
  refine hI_al (k := 0) rfl e0 rfl ?_ -- 26
  refine hM_gi M (by decide) rfl rfl rfl (k := 43) (c := 9) (lo := 0) (hi := 63) rfl rfl rfl rfl rfl (fun x1 q1 a1 b1 => ?_) -- 27
  refine hM_cge (off := 20) (t := 50) rfl lq4 q1 (by decide) rfl (fun c30 => ?_) (fun c30 => ?_) -- 30
  · refine hI_il2 (k := 4) rfl e4 rfl ?_ -- 50
    refine hI_ri rfl rfl ?_ -- 52
    exact g0 a1 b1 c30
  · refine hI_al (k := 0) rfl e0 rfl ?_ -- 33
    refine hM_ga M (by decide) rfl rfl (k := 45) (c := 9) rfl rfl rfl (by decide +kernel) rfl ?_ -- 34
    refine hI_il2 (k := 4) rfl e4 rfl ?_ -- 37
    refine hM_ia M (by decide) (K := 45) (R2 := 79) (L := 64) (H := 64) (lo := (-2147483648)) (hi := 2147483647) rfl (by decide) rfl rfl (fun _ => rfl) rfl lq4 (by omega) (by omega) rfl (fun x2 q2 a2 b2 => ?_) -- 39
    refine hI_il (k := 3) rfl e3 rfl ?_ -- 40
    refine hM_cge (off := 9) (t := 50) rfl q2 lq3 (by decide) rfl (fun c41 => ?_) (fun c41 => ?_) -- 41
    · refine hI_il2 (k := 4) rfl e4 rfl ?_ -- 50
      refine hI_ri rfl rfl ?_ -- 52
      exact g1 a1 b1 c30 c41
    · refine hM_inc (k := 4) (z := 1) rfl e4 lq4 (by decide) (by omega) (by omega) (by decide +kernel) rfl (fun lv3 x3 q3 e3_4 u3 => ?_) -- 44
      have e3_0 := u3 0 _ (by decide) (Or.inl rfl) e0
      have e3_3 := u3 3 _ (by decide) (Or.inl rfl) e3
      refine hI_go (pc' := 24) (off := (-23)) rfl (by decide) ?_ -- 47
      exact g2 x3 q3 lv3 e3_0 e3_3 e3_4 a1 b1 c30 c41
theorem l_be {n : Nat} {w : Nat → Int} {k : Int} {xk : Int32} (M : MX 49 W ρ m A h0 h F V G) (f43 : F 43 = (n : Int)) (n63 : n ≤ 63) (T : st_T (V 44) (V 45) w n) (qk : xk.toInt = k) (g : ∀ x : Int32, x.toInt = (cn_b w (128 * k) n : Int) → Q (some (.int x)) h) : ∀ (d i : Nat) (lv : List (Nat × Value)) (xi : Int32), i + d = n → (∀ j, j < i → st_so w n j < 128 * k) → xi.toInt = (i : Int) → m_lk lv 0 = some (.ref m) → m_lk lv 3 = some (.int xk) → m_lk lv 4 = some (.int xi) → HJ 270 24 lv [] h Q := by
  intro d
  induction d with
  | zero =>
    intro i lv xi hd lo qi e0 e3 e4
    have ei : i = n := by omega
    exact s_be24_ M e0 e3 qk e4 qi (by omega) (by omega) (fun _ _ _ => g xi (by rw [cn_at (i := i) (by omega) lo (Or.inl ei)]; exact qi)) (fun _ _ c _ => absurd c (by omega)) (fun _ _ _ _ _ _ _ _ c _ => absurd c (by omega))
  | succ d ih =>
    intro i lv xi hd lo qi e0 e3 e4
    obtain ⟨⟨⟨a0, a1⟩, a2⟩, a3⟩ := T i (by omega)
    refine s_be24_ M e0 e3 qk e4 qi (by omega) (by omega) (fun _ _ c => absurd c (by omega)) (fun _ _ _ c => g xi ?_) (fun x q lv1 b0 b3 b4 _ _ _ c => ?_)
    · rw [Int.toNat_natCast] at c
      rw [cn_at (i := i) (by omega) lo (Or.inr (by omega))]
      exact qi
    · rw [Int.toNat_natCast] at c
      refine ih (i + 1) lv1 x (by omega) (fun j hj => ?_) (by omega) b0 b3 b4
      by_cases e : j = i
      · rw [e]
        omega
      · exact lo j (by omega)
theorem c_mbelow {Y : RYt} {r v k : Int} {xr xv xk : Int32} (M : MX 49 W ρ m A h0 h F V G) (hw : d_sub g_la W = true) (hw0 : d_sub [(49, 0)] W = true) (hws : d_sub g_so W = true) (qr : xr.toInt = r) (qv : xv.toInt = v) (qk : xk.toInt = k) (rw_ : p_rw (V 6)) (ok : lay_ok (V 5 0) (V 6) r Y) (g : ∀ (x : Int32) (h' : MH) (F' : Nat → Int) (V' : Nat → Nat → Int) (G' : Nat → Nat → Int64), MX 49 W ρ m A h0 h' F' V' G' → bl_q Y (0 ≤ r ∧ r < V 5 0) v k x.toInt → Q (some (.int x)) h') : HJ 270 0 (lv_args 0 [.ref m, .int xr, .int xv, .int xk]) [] h Q := by
  refine s_be0_ M rfl rfl qr rfl qv rfl qk hw0 (fun h2 F2 f2 M2 => ?_)
  refine c_layOY M2 hw qr qv rw_ ok (fun z h3 F3 V3 G3 M3 hx => ?_)
  show HJ 270 11 _ [.int z] h3 Q
  refine s_be11_ (z := z.toInt) M3 rfl rfl qr rfl qv rfl qk rfl (fun c => ?_) (fun x q1 c => ?_)
  · obtain ⟨-, ⟨rr, v0, v1⟩, l⟩ := hx.resolve_left (fun y => c y.1)
    obtain ⟨⟨n, n40, o⟩, -⟩ := id l
    have lv := laid_v l
    have wi := wk_allI (S := ry_s Y) (f := ry_h Y v) o.1.1 (by rw [ry_hv v0]; exact o.1.2 v.toNat (by omega))
    have w63 := p_wsL (f := ry_h Y v) 6
    have e64 : (2 : Nat) ^ 6 = 64 := by decide
    rw [e64] at w63
    refine c_sortY M3 hws l v0 v1 qv (fun h5 F5 V5 M5 f43 fo vo wo fw rn T => ?_)
    show HJ 270 21 _ [] h5 Q
    refine s_be21_ M5 rfl rfl qk (fun x1 q1 lv2 a0 a3 a4 => ?_)
    exact l_be M5 f43 (by omega) T qk (fun x q => g x h5 F5 V5 G3 M5 (Or.inr ⟨⟨rr, v0, v1⟩, q⟩)) (wk_all (ry_s Y) (ry_h Y v)).1 0 lv2 x1 (by omega) (fun j hj => absurd hj (Nat.not_lt_zero j)) q1 a0 a3 a4
  · rcases hx with hx | hx
    · exact g x h3 F3 V3 G3 M3 (Or.inl ⟨fun w => hx.2 ⟨w.1, w.2⟩, q1⟩)
    · omega
end
section
variable {Q : Option Value → MH → Prop} {ρ : Nat → Nat} {h : MH}
theorem c_cbelow {xr xv xk : Int32} (hC : CCok c_CC ρ) (ht : TH c_sp ρ h) (n1 : c_PT 1 ρ h) (n15 : c_PT 15 ρ h) (g : ∀ (ρ' : Nat → Nat) (h' : MH) (z : Int32), FQ ρ ρ' c_m102.2.1 h h' → TH c_sp ρ' h' → bl_q (ac_Y h (q_ac h (h_r h 16 0) xr.toInt.toNat)) (0 ≤ xr.toInt ∧ xr.toInt < q_fd h (h_r h 16 0) 5) xv.toInt xk.toInt z.toInt → Q (some (.int z)) h') : HJ 112 0 (lv_args 0 [.ref 16, .int xr, .int xv, .int xk]) [] h Q := by
  have h16 := n15.1
  have M := RX.start h
  have no : ∀ lv, ¬ dp_in (ac_Y h (q_ac h (h_r h 16 0) xr.toInt.toNat)) (0 ≤ xr.toInt ∧ xr.toInt < q_fd h (h_r h 16 0) 5) xv.toInt → HJ 112 21 lv [] h Q := fun lv c => by
    refine hM_ic (n := (-1)) rfl (by decide) rfl (fun x q => ?_)
    exact hI_ri rfl rfl (g ρ h x (FQ.refl _ _ _) ht (Or.inl ⟨c, q⟩))
  refine hI_al (k := 0) rfl rfl rfl ?_
  refine hI_il (k := 1) rfl rfl rfl ?_
  refine hM_iv (MX.start (W := []) ht h16) (by decide) rfl rfl (by decide) (as := [.int xr]) (r := []) rfl rfl (by decide +kernel) rfl (by decide +kernel) rfl rfl rfl rfl rfl ?_
  refine r_pastOf ht h16 (fun p hp => ?_)
  show HJ 112 5 _ [.ref p] h Q
  refine hI_as2 (k := 4) rfl (by decide +kernel) rfl ?_
  refine hI_al2 (k := 4) rfl rfl rfl ?_
  rcases hp with ⟨r0, r1, ep⟩ | ⟨hb, ep⟩
  · obtain ⟨r4, p0, bk, fp⟩ := pb_at ht n15 r0 r1
    have pl := (n15.2.1 xr.toInt.toNat r4 p0).1
    obtain ⟨n, n40, o⟩ := ry_15 ht n15 xr.toInt.toNat (by omega)
    rw [← ep] at p0 bk fp pl
    have cp := t_spec ht (by decide) (rfl : c_sp[29]? = some _) fp
    have ok := pa_okT ht n1 fp pl
    have es : (h_i h p 11).toInt + 1 = (ry_v (ac_Y h (q_ac h (h_r h 16 0) xr.toInt.toNat)) : Int) := bk.1.1
    generalize ac_Y h (q_ac h (h_r h 16 0) xr.toInt.toNat) = Y at *
    refine hI_nl (t := 21) rfl (by decide) rfl (Or.inr (cp.2.2.1 rfl)) (fun z => absurd z p0) (fun _ => ?_)
    refine hI_al2 (k := 4) rfl rfl rfl ?_
    refine hI_il (k := 2) rfl rfl rfl ?_
    refine hM_iv (MX.start (W := []) ht fp) (by decide) rfl rfl (by decide) (as := [.int xv]) (r := []) rfl rfl (by decide +kernel) rfl (by decide +kernel) rfl rfl rfl rfl rfl ?_
    refine k_has M ok.1.1 rfl (fun z hz => ?_)
    show HJ 112 18 _ [.int z] h Q
    refine hM_zne (off := 5) (t := 23) rfl (zx := z.toInt) rfl (by decide) rfl (fun c => ?_) (fun c => no _ (fun w => ?_))
    · obtain ⟨-, v0, v1⟩ := hz.resolve_right (fun w => c w.1)
      refine hI_al (k := 0) rfl rfl rfl ?_
      refine hI_al2 (k := 4) rfl rfl rfl ?_
      refine hI_il (k := 2) rfl rfl rfl ?_
      refine hM_iv (MX.start (W := []) ht h16) (by decide) rfl rfl (by decide) (as := [.ref p, .int xv]) (r := []) rfl rfl (by decide +kernel) rfl (by decide +kernel) rfl rfl rfl rfl rfl ?_
      refine c_seen (v := xv.toInt) hC ht h16 n1 fp pl bk o rfl v0 (by omega) (fun ρ2 h2 F t2 m1 pb wl e5 wok _ _ => ?_)
      show HJ 112 30 _ [.ref (h_r h 16 5)] h2 Q
      refine hI_il (k := 3) rfl rfl rfl ?_
      have fw := (th_rf ht (R := 6) (by decide) rfl h16 (k := 5) (R2 := 16) rfl (fun z => by cases z)).2
      have fw2 : ρ2 (h_r h 16 5) = 16 := (F.2.1 _ (by rw [fw]; decide)).trans fw
      refine hM_iv (MX.start (W := []) t2 fw2) (by decide) rfl rfl (by decide) (as := [.int xk]) (r := []) rfl rfl (by decide +kernel) rfl (by decide +kernel) rfl rfl rfl rfl rfl ?_
      have wi := wk_allI (S := ry_s Y) (f := ry_h Y xv.toInt) o.1.1 (by rw [ry_hv v0]; exact o.1.2 xv.toInt.toNat (by omega))
      have w63 := p_wsL (f := ry_h Y xv.toInt) 6
      have e64 : (2 : Nat) ^ 6 = 64 := by decide
      rw [e64] at w63
      obtain ⟨l, I⟩ := bk.2.2.2.2.2.1
      refine k_hb (S := ry_s Y) (RX.start h2) wok wl (by omega) (fun i hi => ?_) rfl (fun x qx => ?_)
      · have a := (wi.1 i hi).1
        have b := I.2.2.2.2 ((wk_all (ry_s Y) (ry_h Y xv.toInt)).2.1 i).toNat (by show _ < ps_n (ry_s Y); omega)
        exact ⟨b.2.1, b.2.2.1.1⟩
      · show HJ 112 34 _ [.int x] h2 Q
        exact hI_ri rfl rfl (g ρ2 h2 x F t2 (Or.inr ⟨⟨⟨r0, r1⟩, v0, by omega⟩, qx⟩))
    · have := w.2
      rcases hz with hz | hz <;> omega
  · subst ep
    refine hI_nl (t := 21) rfl (by decide) rfl (Or.inl rfl) (fun _ => no _ (fun w => hb w.1)) (fun z => absurd rfl z)
end
def w_so : List (Nat × Nat) := g_so ++ w_st

