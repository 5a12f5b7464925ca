-- WHAT IS READ IS IN ITS LIMITS; runs hang on their acts alone
theorem rd_numsV {T : Nat → Int} {n : Nat} : ∀ (l : List Int) (i : Nat) (S : RLS), ls_p S ≤ n → ls_p (rd_nums T n l i S).2 ≤ n ∧ ls_g (rd_nums T n l i S).2 = ls_g S ∧ ((rd_nums T n l i S).1 = false → ls_f (rd_nums T n l i S).2 = 1) ∧ (ls_f (rd_nums T n l i S).2 = 0 → ls_f S = 0 ∧ (ls_g S ≤ 40 → (∀ j, j < 4 * (ls_g S - 1) + 2 + i → ls_t (rd_nums T n l i S).2 j = ls_t S j) ∧ ((rd_nums T n l i S).1 = true → ∀ q, q < l.length → 0 ≤ ls_t (rd_nums T n l i S).2 (4 * (ls_g S - 1) + 2 + i + q) ∧ ls_t (rd_nums T n l i S).2 (4 * (ls_g S - 1) + 2 + i + q) ≤ l.getD q 0)))
  | [], i, S, hp => ⟨hp, rfl, fun z => absurd (show true = false from z) (by decide), fun z => ⟨z, fun _ => ⟨fun _ _ => rfl, fun _ q hq => absurd hq (Nat.not_lt_zero q)⟩⟩⟩
  | x :: r, i, S, hp => by
    obtain ⟨⟨-, -, b1⟩, -, -, -, -, b2⟩ := rd_tkB (T := T) hp
    rw [rd_nums]
    by_cases c : rt_t (rd_tk T n (ls_p S)) = 2
    · rw [if_pos c]
      obtain ⟨e1, e2, e3, e4, -⟩ := rd_numE (l := x) (i := i) (q := rd_tk T n (ls_p S)) (S := S)
      obtain ⟨k1, k2, k3, k4⟩ := rd_numsV (T := T) (n := n) r (i + 1) (rd_num x i (rd_tk T n (ls_p S)) S) (by rw [e1]; exact b1)
      rw [e2] at k2 k4
      refine ⟨k1, k2, k3, fun z => ?_⟩
      obtain ⟨k5, k6⟩ := k4 z
      rw [e4] at k5
      have cc : ¬ (x < rt_v (rd_tk T n (ls_p S)) ∧ ls_f S = 0) := fun y => by
        rw [if_pos y] at k5
        exact absurd k5 (by decide)
      rw [if_neg cc] at k5
      refine ⟨k5, fun g40 => ?_⟩
      obtain ⟨k7, k8⟩ := k6 g40
      rw [e3, if_pos g40] at k7
      have at_ : ls_t (rd_nums T n r (i + 1) (rd_num x i (rd_tk T n (ls_p S)) S)).2 (4 * (ls_g S - 1) + 2 + i) = rt_v (rd_tk T n (ls_p S)) := by
        rw [k7 _ (by omega), m_uE]
      refine ⟨fun j hj => by rw [k7 j (by omega), m_uN _ _ _ _ (by omega)], fun y q hq => ?_⟩
      cases q with
      | zero =>
        rw [show 4 * (ls_g S - 1) + 2 + i + 0 = 4 * (ls_g S - 1) + 2 + i from rfl, at_]
        have := (b2 c).1
        refine ⟨this, ?_⟩
        show rt_v (rd_tk T n (ls_p S)) ≤ x
        by_cases w : x < rt_v (rd_tk T n (ls_p S))
        · exact absurd ⟨w, k5⟩ cc
        · omega
      | succ q =>
        have := k8 y q (by simpa using hq)
        rw [show 4 * (ls_g S - 1) + 2 + (i + 1) + q = 4 * (ls_g S - 1) + 2 + i + (q + 1) by omega] at this
        exact this
    · rw [if_neg c]
      exact ⟨b1, rfl, fun _ => rfl, fun z => absurd (show (1 : Int) = 0 from z) (by decide)⟩
def ls_P (n : Nat) (S : RLS) : Prop := ls_p S ≤ n ∧ (ls_f S = 0 → ∀ k, k < ls_g S → av_2 (fun j => ls_t S (j + 1)) k)
theorem av_2C {T U : Nat → Int} {k : Nat} (h : ∀ j, 4 * k ≤ j → j < 4 * k + 4 → U j = T j) (a : av_2 T k) : av_2 U k := by
  unfold av_2
  rw [h (4 * k) (by omega) (by omega), h (4 * k + 1) (by omega) (by omega), h (4 * k + 2) (by omega) (by omega), h (4 * k + 3) (by omega) (by omega)]
  exact a
theorem ls_PB {n s p : Nat} {S : RLS} (hp : p ≤ n) : ls_P n (ls_bad s (ls_at p S)) := ⟨hp, fun z => absurd (show (1 : Int) = 0 from z) (by decide)⟩
theorem ls_PA {n p : Nat} {S : RLS} (hp : p ≤ n) (h : ls_P n S) : ls_P n (ls_at p S) := ⟨hp, h.2⟩
-- an act read whole
theorem ls_PL {T : Nat → Int} {n : Nat} {S : RLS} (h : ls_P n S) : ls_P n (rd_line T n S).2 := by
  obtain ⟨⟨-, -, b1⟩, -, -, -, b5, -⟩ := rd_tkB (T := T) h.1
  unfold rd_line
  split
  · exact ls_PA b1 h
  · split
    · next hw =>
      obtain ⟨e1, e2, e3, e4, -⟩ := rd_begE (q := rd_tk T n (ls_p S)) (S := S)
      obtain ⟨v1, v2, -⟩ := b5 hw.1
      have v0 := hw.2
      obtain ⟨k1, k2, k3, k4⟩ := rd_numsV (T := T) (n := n) (rd_lim (rt_v (rd_tk T n (ls_p S)))) 0 (rd_beg (rd_tk T n (ls_p S)) S) (by rw [e1]; exact b1)
      have nil : rt_v (rd_tk T n (ls_p S)) = 0 → (rd_nums T n (rd_lim (rt_v (rd_tk T n (ls_p S)))) 0 (rd_beg (rd_tk T n (ls_p S)) S)).2 = rd_beg (rd_tk T n (ls_p S)) S := fun z => by rw [z]; rfl
      have l1 : rt_v (rd_tk T n (ls_p S)) = 1 → rd_lim (rt_v (rd_tk T n (ls_p S))) = [40, 99] := fun z => by rw [z]; rfl
      have l4 : rt_v (rd_tk T n (ls_p S)) = 4 → rd_lim (rt_v (rd_tk T n (ls_p S))) = [40, 39, 99] := fun z => by rw [z]; rfl
      generalize rd_nums T n (rd_lim (rt_v (rd_tk T n (ls_p S)))) 0 (rd_beg (rd_tk T n (ls_p S)) S) = R at k1 k2 k3 k4 nil ⊢
      generalize rt_v (rd_tk T n (ls_p S)) = v at *
      split
      · next ht =>
        have P : ls_P n R.2 := ⟨k1, fun z => by
          obtain ⟨f1, k5⟩ := k4 z
          rw [e4] at f1
          have cc : ¬ (40 ≤ ls_g S ∧ ls_f S = 0) := fun y => by
            rw [if_pos y] at f1
            exact absurd f1 (by decide)
          rw [if_neg cc] at f1
          have g40 : ¬ 40 ≤ ls_g S := fun y => cc ⟨y, f1⟩
          rw [e2] at k2 k5
          obtain ⟨k6, k7⟩ := k5 (by omega)
          rw [e3, if_neg g40] at k6
          rw [Nat.add_sub_cancel] at k6 k7
          intro k hk
          rw [k2] at hk
          have bt : ∀ j, j < 4 * ls_g S + 2 → ls_t R.2 j = rd_bt (ls_g S) v (ls_t S) j := fun j hj => k6 j (by omega)
          by_cases e : k = ls_g S
          · subst e
            have t1 : ls_t R.2 (4 * ls_g S + 1) = v := by
              rw [bt _ (by omega)]
              unfold rd_bt
              rw [m_uN _ _ _ _ (by omega), m_uN _ _ _ _ (by omega), m_uN _ _ _ _ (by omega), m_uE]
            unfold av_2 av_1
            show (0 ≤ ls_t R.2 (4 * ls_g S + 1) ∧ ls_t R.2 (4 * ls_g S + 1) ≤ 5) ∧ ((ls_t R.2 (4 * ls_g S + 1) = 1 → 0 ≤ ls_t R.2 (4 * ls_g S + 2 + 1) ∧ ls_t R.2 (4 * ls_g S + 2 + 1) ≤ 99) ∧ (ls_t R.2 (4 * ls_g S + 1) = 4 → 0 ≤ ls_t R.2 (4 * ls_g S + 3 + 1) ∧ ls_t R.2 (4 * ls_g S + 3 + 1) ≤ 99)) ∧ (ls_t R.2 (4 * ls_g S + 1) = 0 → ls_t R.2 (4 * ls_g S + 1 + 1) = -1)
            rw [t1]
            refine ⟨⟨v0, v2⟩, ⟨fun y => ?_, fun y => ?_⟩, fun y => ?_⟩
            · rw [l1 y] at k7
              exact k7 ht 1 (by decide)
            · rw [l4 y] at k7
              exact k7 ht 2 (by decide)
            · rw [nil y, e3, if_neg g40]
              unfold rd_bt
              rw [m_uN _ _ _ _ (by omega), m_uN _ _ _ _ (by omega), m_uE]
          · refine av_2C (fun j j0 j1 => ?_) (h.2 f1 k (by omega))
            show ls_t R.2 (j + 1) = ls_t S (j + 1)
            rw [bt _ (by omega)]
            unfold rd_bt
            rw [m_uN _ _ _ _ (by omega), m_uN _ _ _ _ (by omega), m_uN _ _ _ _ (by omega), m_uN _ _ _ _ (by omega)]⟩
        obtain ⟨⟨-, -, c1⟩, -⟩ := rd_tkB (T := T) k1
        unfold rd_mark
        split
        · exact ls_PA c1 P
        · exact ls_PB c1
      · next hf =>
        exact ⟨k1, fun z => by
          have := k3 (by simpa using hf)
          rw [this] at z
          exact absurd z (by decide)⟩
    · exact ls_PB b1
theorem ls_PR {T : Nat → Int} {n : Nat} : ∀ (d : Nat) (S : RLS), ls_P n S → ls_P n (rd_run T n d S).2
  | 0, S, h => h
  | d + 1, S, h => by
    have k := ls_PL (T := T) h
    rw [rd_run]
    split
    · exact k
    · split
      · exact k
      · exact ls_PR d _ k
theorem ls_PF {n : Nat} {S : RLS} (h : ls_P n S) : ls_P n (rd_fin n S) := by
  unfold rd_fin
  split
  · unfold ls_note
    split
    · exact ⟨h.1, fun z => absurd (show (4 : Int) = 0 from z) (by decide)⟩
    · exact h
  · exact h
theorem ls_PT {T : Nat → Int} {n : Nat} : ls_P n (rd_tx T n) := by
  rw [rd_txE]
  exact ls_PF (ls_PR 601 rd_S0 ⟨Nat.zero_le _, fun _ k hk => absurd hk (Nat.not_lt_zero k)⟩)
-- what is read is what lies in a row of acts
theorem ac_TE {h : MH} {c k : Nat} : ac_T h c (4 * k) = q_kd h c k ∧ ∀ i, i < 3 → ac_T h c (4 * k + 1 + i) = q_nm h c (3 * k + i) := by
  refine ⟨?_, fun i hi => ?_⟩
  · unfold ac_T
    rw [if_pos (by omega), show 4 * k / 4 = k by omega]
  · unfold ac_T
    rw [if_neg (by omega), show (4 * k + 1 + i) / 4 = k by omega, show (4 * k + 1 + i) % 4 - 1 = i by omega]
theorem ac_TI {h : MH} {c n : Nat} {U : Nat → Int} (h1 : ∀ k, k < n → q_kd h c k = U (4 * k) ∧ ∀ i, i < 3 → q_nm h c (3 * k + i) = U (4 * k + 1 + i)) : ∀ j, j < 4 * n → ac_T h c j = U j := fun j hj => by
  obtain ⟨k1, k2⟩ := h1 (j / 4) (by omega)
  obtain ⟨e1, e2⟩ := ac_TE (h := h) (c := c) (k := j / 4)
  by_cases e : j % 4 = 0
  · rw [show j = 4 * (j / 4) by omega, e1, k1]
  · have ej : j = 4 * (j / 4) + 1 + (j % 4 - 1) := by omega
    rw [ej, e2 _ (by omega), k2 _ (by omega)]
theorem av_ar {h : MH} {c n : Nat} {T : Nat → Int} (f : ls_f (rd_tx T n) = 0) (a : ar_q h c (rd_tx T n)) : av_c h c := fun k hk => by
  obtain ⟨a1, a2⟩ := a
  rw [a1] at hk
  refine av_2C (fun j j0 j1 => ?_) (ls_PT.2 f k (by omega))
  have e := ac_TI (h := h) (c := c) (n := ls_g (rd_tx T n)) (U := fun j => ls_t (rd_tx T n) (j + 1)) (fun q hq => ⟨(a2 q hq).1, fun i hi => by
    have := (a2 q hq).2 i hi
    rw [show 4 * q + 2 + i = 4 * q + 1 + i + 1 by omega] at this
    exact this⟩)
  exact e j (by omega)
theorem ry_runC {T U : Nat → Int} : ∀ n, (∀ j, j < 4 * n → T j = U j) → ry_run T n = ry_run U n
  | 0, _ => rfl
  | n + 1, h => by
    rw [ry_run, ry_run, ry_runC n (fun j hj => h j (by omega)), h (4 * n) (by omega), h (4 * n + 1) (by omega), h (4 * n + 2) (by omega), h (4 * n + 3) (by omega)]
-- two rows of acts that say the same
theorem ac_eqY {h h' : MH} {c c' : Nat} (e2 : q_fd h' c' 2 = q_fd h c 2) (b : q_fd h c 2 ≤ 40) (ek : ∀ k, k < 40 → q_kd h' c' k = q_kd h c k) (en : ∀ k, k < 120 → q_nm h' c' k = q_nm h c k) : ac_Y h' c' = ac_Y h c ∧ (av_c h c → av_c h' c') := by
  have n40 : ac_N h c ≤ 40 := by
    unfold ac_N
    omega
  have eN : ac_N h' c' = ac_N h c := by
    unfold ac_N
    rw [e2]
  have eT : ∀ j, j < 4 * ac_N h c → ac_T h' c' j = ac_T h c j := ac_TI (fun k hk => by
    obtain ⟨e1, e3⟩ := ac_TE (h := h) (c := c) (k := k)
    exact ⟨(ek k (by omega)).trans e1.symm, fun i hi => (en _ (by omega)).trans (e3 i hi).symm⟩)
  refine ⟨?_, fun a k hk => ?_⟩
  · unfold ac_Y
    rw [eN, ry_runC _ eT]
  · rw [e2] at hk
    have : k < ac_N h c := by
      unfold ac_N
      omega
    exact av_2C (fun j j0 j1 => eT j (by omega)) (a k hk)
theorem av_pc {h h' : MH} {a a' : Nat} (e : pc_eq h a h' a') (b : td_bd h a) (k : av_t h a) : av_t h' a' := fun r hr => by
  rw [e.1 5 (by decide) (by decide)] at hr
  have r4 : r < 4 := by
    have := b.2.1
    omega
  obtain ⟨e1, e2, e3⟩ := e.2.2 r r4
  exact (ac_eqY e1 (b.2.2 r r4) e2 e3).2 (k r hr)
