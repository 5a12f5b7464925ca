section
-- WHAT IS READ IS IN ITS LIMITS; runs hang on their acts alone
theorem rd_numsV {T : Nat → Int} {n : Nat} : ∀ (l : List Int) (i : Nat) (S : RLS), ls_p S ≤ n → ls_p (rd_nums T n l i S).2 ≤ n ∧ ls_g (rd_nums T n l i S).2 = ls_g S ∧ ((rd_nums T n l i S).1 = false → ls_f (rd_nums T n l i S).2 = 1) ∧ (ls_f (rd_nums T n l i S).2 = 0 → ls_f S = 0 ∧ (ls_g S ≤ 40 → (∀ j, j < 4 * (ls_g S - 1) + 2 + i → ls_t (rd_nums T n l i S).2 j = ls_t S j) ∧ ((rd_nums T n l i S).1 = true → ∀ q, q < l.length → 0 ≤ ls_t (rd_nums T n l i S).2 (4 * (ls_g S - 1) + 2 + i + q) ∧ ls_t (rd_nums T n l i S).2 (4 * (ls_g S - 1) + 2 + i + q) ≤ l.getD q 0)))
  | [], i, S, hp => ⟨hp, rfl, fun z => absurd (show true = false from z) (by decide), fun z => ⟨z, fun _ => ⟨fun _ _ => rfl, fun _ q hq => absurd hq (Nat.not_lt_zero q)⟩⟩⟩
  | x :: r, i, S, hp => by
    obtain ⟨⟨-, -, b1⟩, -, -, -, -, b2⟩ := rd_tkB (T := T) hp
    rw [rd_nums]
    by_cases c : rt_t (rd_tk T n (ls_p S)) = 2
    · rw [if_pos c]
      obtain ⟨e1, e2, e3, e4, -⟩ := rd_numE (l := x) (i := i) (q := rd_tk T n (ls_p S)) (S := S)
      obtain ⟨k1, k2, k3, k4⟩ := rd_numsV (T := T) (n := n) r (i + 1) (rd_num x i (rd_tk T n (ls_p S)) S) (by rw [e1]; exact b1)
      rw [e2] at k2 k4
      refine ⟨k1, k2, k3, fun z => ?_⟩
      obtain ⟨k5, k6⟩ := k4 z
      rw [e4] at k5
      have cc : ¬ (x < rt_v (rd_tk T n (ls_p S)) ∧ ls_f S = 0) := fun y => by
        rw [if_pos y] at k5
        exact absurd k5 (by decide)
      rw [if_neg cc] at k5
      refine ⟨k5, fun g40 => ?_⟩
      obtain ⟨k7, k8⟩ := k6 g40
      rw [e3, if_pos g40] at k7
      have at_ : ls_t (rd_nums T n r (i + 1) (rd_num x i (rd_tk T n (ls_p S)) S)).2 (4 * (ls_g S - 1) + 2 + i) = rt_v (rd_tk T n (ls_p S)) := by
        rw [k7 _ (by omega), m_uE]
      refine ⟨fun j hj => by rw [k7 j (by omega), m_uN _ _ _ _ (by omega)], fun y q hq => ?_⟩
      cases q with
      | zero =>
        rw [show 4 * (ls_g S - 1) + 2 + i + 0 = 4 * (ls_g S - 1) + 2 + i from rfl, at_]
        have := (b2 c).1
        refine ⟨this, ?_⟩
        show rt_v (rd_tk T n (ls_p S)) ≤ x
        by_cases w : x < rt_v (rd_tk T n (ls_p S))
        · exact absurd ⟨w, k5⟩ cc
        · omega
      | succ q =>
        have := k8 y q (by simpa using hq)
        rw [show 4 * (ls_g S - 1) + 2 + (i + 1) + q = 4 * (ls_g S - 1) + 2 + i + (q + 1) by omega] at this
        exact this
    · rw [if_neg c]
      exact ⟨b1, rfl, fun _ => rfl, fun z => absurd (show (1 : Int) = 0 from z) (by decide)⟩
def ls_P (n : Nat) (S : RLS) : Prop := ls_p S ≤ n ∧ (ls_f S = 0 → ∀ k, k < ls_g S → av_2 (fun j => ls_t S (j + 1)) k)
theorem av_2C {T U : Nat → Int} {k : Nat} (h : ∀ j, 4 * k ≤ j → j < 4 * k + 4 → U j = T j) (a : av_2 T k) : av_2 U k := by
  unfold av_2
  rw [h (4 * k) (by omega) (by omega), h (4 * k + 1) (by omega) (by omega), h (4 * k + 2) (by omega) (by omega), h (4 * k + 3) (by omega) (by omega)]
  exact a
theorem ls_PB {n s p : Nat} {S : RLS} (hp : p ≤ n) : ls_P n (ls_bad s (ls_at p S)) := ⟨hp, fun z => absurd (show (1 : Int) = 0 from z) (by decide)⟩
theorem ls_PA {n p : Nat} {S : RLS} (hp : p ≤ n) (h : ls_P n S) : ls_P n (ls_at p S) := ⟨hp, h.2⟩
-- an act read whole
theorem ls_PL {T : Nat → Int} {n : Nat} {S : RLS} (h : ls_P n S) : ls_P n (rd_line T n S).2 := by
  obtain ⟨⟨-, -, b1⟩, -, -, -, b5, -⟩ := rd_tkB (T := T) h.1
  unfold rd_line
  split
  · exact ls_PA b1 h
  · split
    · next hw =>
      obtain ⟨e1, e2, e3, e4, -⟩ := rd_begE (q := rd_tk T n (ls_p S)) (S := S)
      obtain ⟨v1, v2, -⟩ := b5 hw.1
      have v0 := hw.2
      obtain ⟨k1, k2, k3, k4⟩ := rd_numsV (T := T) (n := n) (rd_lim (rt_v (rd_tk T n (ls_p S)))) 0 (rd_beg (rd_tk T n (ls_p S)) S) (by rw [e1]; exact b1)
      have nil : rt_v (rd_tk T n (ls_p S)) = 0 → (rd_nums T n (rd_lim (rt_v (rd_tk T n (ls_p S)))) 0 (rd_beg (rd_tk T n (ls_p S)) S)).2 = rd_beg (rd_tk T n (ls_p S)) S := fun z => by rw [z]; rfl
      have l1 : rt_v (rd_tk T n (ls_p S)) = 1 → rd_lim (rt_v (rd_tk T n (ls_p S))) = [40, 99] := fun z => by rw [z]; rfl
      have l4 : rt_v (rd_tk T n (ls_p S)) = 4 → rd_lim (rt_v (rd_tk T n (ls_p S))) = [40, 39, 99] := fun z => by rw [z]; rfl
      generalize rd_nums T n (rd_lim (rt_v (rd_tk T n (ls_p S)))) 0 (rd_beg (rd_tk T n (ls_p S)) S) = R at k1 k2 k3 k4 nil ⊢
      generalize rt_v (rd_tk T n (ls_p S)) = v at *
      split
      · next ht =>
        have P : ls_P n R.2 := ⟨k1, fun z => by
          obtain ⟨f1, k5⟩ := k4 z
          rw [e4] at f1
          have cc : ¬ (40 ≤ ls_g S ∧ ls_f S = 0) := fun y => by
            rw [if_pos y] at f1
            exact absurd f1 (by decide)
          rw [if_neg cc] at f1
          have g40 : ¬ 40 ≤ ls_g S := fun y => cc ⟨y, f1⟩
          rw [e2] at k2 k5
          obtain ⟨k6, k7⟩ := k5 (by omega)
          rw [e3, if_neg g40] at k6
          rw [Nat.add_sub_cancel] at k6 k7
          intro k hk
          rw [k2] at hk
          have bt : ∀ j, j < 4 * ls_g S + 2 → ls_t R.2 j = rd_bt (ls_g S) v (ls_t S) j := fun j hj => k6 j (by omega)
          by_cases e : k = ls_g S
          · subst e
            have t1 : ls_t R.2 (4 * ls_g S + 1) = v := by
              rw [bt _ (by omega)]
              unfold rd_bt
              rw [m_uN _ _ _ _ (by omega), m_uN _ _ _ _ (by omega), m_uN _ _ _ _ (by omega), m_uE]
            unfold av_2 av_1
            show (0 ≤ ls_t R.2 (4 * ls_g S + 1) ∧ ls_t R.2 (4 * ls_g S + 1) ≤ 5) ∧ ((ls_t R.2 (4 * ls_g S + 1) = 1 → 0 ≤ ls_t R.2 (4 * ls_g S + 2 + 1) ∧ ls_t R.2 (4 * ls_g S + 2 + 1) ≤ 99) ∧ (ls_t R.2 (4 * ls_g S + 1) = 4 → 0 ≤ ls_t R.2 (4 * ls_g S + 3 + 1) ∧ ls_t R.2 (4 * ls_g S + 3 + 1) ≤ 99)) ∧ (ls_t R.2 (4 * ls_g S + 1) = 0 → ls_t R.2 (4 * ls_g S + 1 + 1) = -1)
            rw [t1]
            refine ⟨⟨v0, v2⟩, ⟨fun y => ?_, fun y => ?_⟩, fun y => ?_⟩
            · rw [l1 y] at k7
              exact k7 ht 1 (by decide)
            · rw [l4 y] at k7
              exact k7 ht 2 (by decide)
            · rw [nil y, e3, if_neg g40]
              unfold rd_bt
              rw [m_uN _ _ _ _ (by omega), m_uN _ _ _ _ (by omega), m_uE]
          · refine av_2C (fun j j0 j1 => ?_) (h.2 f1 k (by omega))
            show ls_t R.2 (j + 1) = ls_t S (j + 1)
            rw [bt _ (by omega)]
            unfold rd_bt
            rw [m_uN _ _ _ _ (by omega), m_uN _ _ _ _ (by omega), m_uN _ _ _ _ (by omega), m_uN _ _ _ _ (by omega)]⟩
        obtain ⟨⟨-, -, c1⟩, -⟩ := rd_tkB (T := T) k1
        unfold rd_mark
        split
        · exact ls_PA c1 P
        · exact ls_PB c1
      · next hf =>
        exact ⟨k1, fun z => by
          have := k3 (by simpa using hf)
          rw [this] at z
          exact absurd z (by decide)⟩
    · exact ls_PB b1
theorem ls_PR {T : Nat → Int} {n : Nat} : ∀ (d : Nat) (S : RLS), ls_P n S → ls_P n (rd_run T n d S).2
  | 0, S, h => h
  | d + 1, S, h => by
    have k := ls_PL (T := T) h
    rw [rd_run]
    split
    · exact k
    · split
      · exact k
      · exact ls_PR d _ k
theorem ls_PF {n : Nat} {S : RLS} (h : ls_P n S) : ls_P n (rd_fin n S) := by
  unfold rd_fin
  split
  · unfold ls_note
    split
    · exact ⟨h.1, fun z => absurd (show (4 : Int) = 0 from z) (by decide)⟩
    · exact h
  · exact h
theorem ls_PT {T : Nat → Int} {n : Nat} : ls_P n (rd_tx T n) := by
  rw [rd_txE]
  exact ls_PF (ls_PR 601 rd_S0 ⟨Nat.zero_le _, fun _ k hk => absurd hk (Nat.not_lt_zero k)⟩)
-- what is read is what lies in a row of acts
theorem ac_TE {h : MH} {c k : Nat} : ac_T h c (4 * k) = q_kd h c k ∧ ∀ i, i < 3 → ac_T h c (4 * k + 1 + i) = q_nm h c (3 * k + i) := by
  refine ⟨?_, fun i hi => ?_⟩
  · unfold ac_T
    rw [if_pos (by omega), show 4 * k / 4 = k by omega]
  · unfold ac_T
    rw [if_neg (by omega), show (4 * k + 1 + i) / 4 = k by omega, show (4 * k + 1 + i) % 4 - 1 = i by omega]
theorem ac_TI {h : MH} {c n : Nat} {U : Nat → Int} (h1 : ∀ k, k < n → q_kd h c k = U (4 * k) ∧ ∀ i, i < 3 → q_nm h c (3 * k + i) = U (4 * k + 1 + i)) : ∀ j, j < 4 * n → ac_T h c j = U j := fun j hj => by
  obtain ⟨k1, k2⟩ := h1 (j / 4) (by omega)
  obtain ⟨e1, e2⟩ := ac_TE (h := h) (c := c) (k := j / 4)
  by_cases e : j % 4 = 0
  · rw [show j = 4 * (j / 4) by omega, e1, k1]
  · have ej : j = 4 * (j / 4) + 1 + (j % 4 - 1) := by omega
    rw [ej, e2 _ (by omega), k2 _ (by omega)]
theorem av_ar {h : MH} {c n : Nat} {T : Nat → Int} (f : ls_f (rd_tx T n) = 0) (a : ar_q h c (rd_tx T n)) : av_c h c := fun k hk => by
  obtain ⟨a1, a2⟩ := a
  rw [a1] at hk
  refine av_2C (fun j j0 j1 => ?_) (ls_PT.2 f k (by omega))
  have e := ac_TI (h := h) (c := c) (n := ls_g (rd_tx T n)) (U := fun j => ls_t (rd_tx T n) (j + 1)) (fun q hq => ⟨(a2 q hq).1, fun i hi => by
    have := (a2 q hq).2 i hi
    rw [show 4 * q + 2 + i = 4 * q + 1 + i + 1 by omega] at this
    exact this⟩)
  exact e j (by omega)
theorem ry_runC {T U : Nat → Int} : ∀ n, (∀ j, j < 4 * n → T j = U j) → ry_run T n = ry_run U n
  | 0, _ => rfl
  | n + 1, h => by
    rw [ry_run, ry_run, ry_runC n (fun j hj => h j (by omega)), h (4 * n) (by omega), h (4 * n + 1) (by omega), h (4 * n + 2) (by omega), h (4 * n + 3) (by omega)]
-- two rows of acts that say the same
theorem ac_eqY {h h' : MH} {c c' : Nat} (e2 : q_fd h' c' 2 = q_fd h c 2) (b : q_fd h c 2 ≤ 40) (ek : ∀ k, k < 40 → q_kd h' c' k = q_kd h c k) (en : ∀ k, k < 120 → q_nm h' c' k = q_nm h c k) : ac_Y h' c' = ac_Y h c ∧ (av_c h c → av_c h' c') := by
  have n40 : ac_N h c ≤ 40 := by
    unfold ac_N
    omega
  have eN : ac_N h' c' = ac_N h c := by
    unfold ac_N
    rw [e2]
  have eT : ∀ j, j < 4 * ac_N h c → ac_T h' c' j = ac_T h c j := ac_TI (fun k hk => by
    obtain ⟨e1, e3⟩ := ac_TE (h := h) (c := c) (k := k)
    exact ⟨(ek k (by omega)).trans e1.symm, fun i hi => (en _ (by omega)).trans (e3 i hi).symm⟩)
  refine ⟨?_, fun a k hk => ?_⟩
  · unfold ac_Y
    rw [eN, ry_runC _ eT]
  · rw [e2] at hk
    have : k < ac_N h c := by
      unfold ac_N
      omega
    exact av_2C (fun j j0 j1 => eT j (by omega)) (a k hk)
theorem av_pc {h h' : MH} {a a' : Nat} (e : pc_eq h a h' a') (b : td_bd h a) (k : av_t h a) : av_t h' a' := fun r hr => by
  rw [e.1 5 (by decide) (by decide)] at hr
  have r4 : r < 4 := by
    have := b.2.1
    omega
  obtain ⟨e1, e2, e3⟩ := e.2.2 r r4
  exact (ac_eqY e1 (b.2.2 r r4) e2 e3).2 (k r hr)
end
section
-- PASTS: apart, whole, made anew, run
def pa_Rb (i : Nat) : Bool := match c_sp[pa_R i]? with
  | some rs => Nat.beq rs.1.1 20 && (Nat.ble (pa_n i) rs.1.2.1 && (Nat.ble rs.1.2.2 1000000 && rs.2.1))
  | none => false
theorem pa_Rall : (List.range 59).all (fun i => pa_Rb i) = true := by decide +kernel
theorem pa_Rn : ∀ i, i < 59 → pa_R i ≠ 0 ∧ pa_R i ≠ 29 ∧ pa_R i ≠ 39 ∧ pa_R i ≠ 16 ∧ pa_R i ≠ 45 ∧ pa_R i ≠ 41 ∧ pa_R i ≠ 9 ∧ pa_R i ≠ 42 ∧ pa_R i ≠ 30 ∧ (pa_R i ≠ 14 ∧ pa_R i ≠ 15 ∧ pa_R i ≠ 104 ∧ pa_R i ≠ 105) ∧ (i = 11 ∨ pa_R i ≠ 40) := by decide +kernel
theorem pa_okT {ρ : Nat → Nat} {h : MH} {p : Nat} (ht : TH c_sp ρ h) (n1 : t_nd ρ h) (hp : ρ p = 29) (o : pl_o h p) : pa_ok h p := by
  obtain ⟨⟨r0, r1, r2, r7, r8⟩, r4, rf⟩ := past_ob ht hp
  have rw_ := past_row ht hp
  have lt : ∀ {x : Nat}, ρ x ≠ 0 → x < 16 + h_n h := fun {x} hx => (ht.2 x hx).1
  have cP := t_spec ht (by decide) (rfl : c_sp[29]? = some _) hp
  have c0 := t_spec ht (by decide) (rfl : c_sp[39]? = some _) r0
  have c4 := t_spec ht (by decide) (rfl : c_sp[16]? = some _) r4
  have c2 := t_spec ht (by decide) (rfl : c_sp[30]? = some _) r2
  have c1 := t_spec ht (by decide) (rfl : c_sp[42]? = some _) r1
  have cf := t_spec ht (by decide) (rfl : c_sp[45]? = some _) rf
  have rc := (th_rf ht (R := 39) (by decide) rfl r0 (k := 0) rfl (fun z => by cases z)).2
  have rh := (th_rf ht (R := 39) (by decide) rfl r0 (k := 1) rfl (fun z => by cases z)).2
  have cc := t_spec ht (by decide) (rfl : c_sp[40]? = some _) rc
  have ch := t_spec ht (by decide) (rfl : c_sp[41]? = some _) rh
  obtain ⟨nd1, nd2⟩ := n1 _ (Or.inl r0)
  have m0 : 0 ≤ (h_i h (h_r h p 0) 5).toInt ∧ _ := c0.2.2.2 5 (.inl (_, _)) rfl (fun z => by cases z)
  have f41 : 41 ≤ (h_k h (h_r h (h_r h p 1) 2)).2 ∧ (h_k h (h_r h (h_r h p 1) 2)).2 ≤ 41 := cf.2.1
  have r41 : 41 ≤ (h_k h (h_r h p 2)).2 ∧ (h_k h (h_r h p 2)).2 ≤ 41 := c2.2.1
  have h64 : 64 ≤ (h_k h (h_r h (h_r h p 0) 1)).2 ∧ (h_k h (h_r h (h_r h p 0) 1)).2 ≤ 32000 := ch.2.1
  refine ⟨⟨cP.1, cP.2.2.1 rfl, lt (by rw [hp]; decide)⟩, ⟨⟨c0.1, c0.2.2.1 rfl, lt (by rw [r0]; decide)⟩, ⟨cc.1, cc.2.2.1 rfl, lt (by rw [rc]; decide)⟩, ⟨ch.1, ch.2.2.1 rfl, lt (by rw [rh]; decide)⟩, nd1, ⟨m0.1, nd2⟩, h64⟩, ⟨c4.1, c4.2.2.1 rfl, lt (by rw [r4]; decide)⟩, ⟨c2.1, by omega, c2.2.2.1 rfl, lt (by rw [r2]; decide)⟩, ⟨c1.1, c1.2.2.1 rfl, lt (by rw [r1]; decide)⟩, ⟨cf.1, by omega, cf.2.2.1 rfl, lt (by rw [rf]; decide), ne_r rf rh (by decide)⟩, fun i hi => ?_, fun i j hi hj hn => ?_⟩
  · have e := rw_ i hi
    have b := List.all_eq_true.mp pa_Rall i (List.mem_range.mpr hi)
    unfold pa_Rb at b
    split at b
    · next rs hs =>
      rw [Bool.and_eq_true, Bool.and_eq_true, Bool.and_eq_true] at b
      obtain ⟨b1, b2, b3, b4⟩ := b
      have c := t_spec ht (pa_Rn i hi).1 hs e
      have b1 := Nat.eq_of_beq_eq_true b1
      have b2 := Nat.le_of_ble_eq_true b2
      have b3 := Nat.le_of_ble_eq_true b3
      have c21 := c.2.1
      exact ⟨c.1.trans b1, c.2.2.1 b4, lt (by rw [e]; exact (pa_Rn i hi).1), by omega, by omega⟩
    · cases b
  · by_cases i11 : i = 11
    · subst i11
      exact ne_r (rw_ 11 hi) (rw_ j hj) (Ne.symm ((pa_Rn j hj).2.2.2.2.2.2.2.2.2.2.resolve_left (Ne.symm hn)))
    · by_cases j11 : j = 11
      · subst j11
        exact ne_r (rw_ i hi) (rw_ 11 hj) ((pa_Rn i hi).2.2.2.2.2.2.2.2.2.2.resolve_left i11)
      · exact o i j hi hj i11 j11 hn
theorem pl_mk {ρ : Nat → Nat} {h h' : MH} {q : Nat} (ht : TH c_sp ρ h) (hq : ρ q = 29) (rr : ∀ a k, ρ a ≠ 0 → (ρ a ≠ 39 ∨ 2 ≤ k) → ρ a ≠ 9 → h_r h' a k = h_r h a k) : pl_same h h' q := by
  obtain ⟨⟨r0, r1, r2, r7, r8⟩, r4, rf⟩ := past_ob ht hq
  have p_ : ∀ k, h_r h' q k = h_r h q k := fun k => rr q k (by rw [hq]; decide) (Or.inl (by rw [hq]; decide)) (by rw [hq]; decide)
  have n_ : ∀ k, 2 ≤ k → h_r h' (h_r h q 0) k = h_r h (h_r h q 0) k := fun k hk => rr _ k (by rw [r0]; decide) (Or.inr hk) (by rw [r0]; decide)
  have w_ : ∀ k, h_r h' (h_r h (h_r h q 0) 4) k = h_r h (h_r h (h_r h q 0) 4) k := fun k => rr _ k (by rw [r4]; decide) (Or.inl (by rw [r4]; decide)) (by rw [r4]; decide)
  have l_ : ∀ k, h_r h' (h_r h q 1) k = h_r h (h_r h q 1) k := fun k => rr _ k (by rw [r1]; decide) (Or.inl (by rw [r1]; decide)) (by rw [r1]; decide)
  have o_ : ∀ k, h_r h' (h_r h q 2) k = h_r h (h_r h q 2) k := fun k => rr _ k (by rw [r2]; decide) (Or.inl (by rw [r2]; decide)) (by rw [r2]; decide)
  refine ⟨⟨p_ 0, p_ 1, n_ 4 (by decide), l_ 2⟩, fun i hi h11 => ?_⟩
  unfold pa_w
  simp only [p_, if_neg h11]
  rw [n_ 4 (by decide), n_ 2 (by decide), n_ 3 (by decide), w_, l_, o_]
theorem pl_same0 {h : MH} {q : Nat} : pl_same h h q ∧ bk_same h h q := ⟨⟨⟨rfl, rfl, rfl, rfl⟩, fun _ _ _ => rfl⟩, ⟨rfl, rfl⟩, fun _ _ _ _ => rfl, fun _ => rfl, rfl, ⟨rfl, rfl⟩, fun _ => rfl, rfl, fun _ => rfl⟩
-- what a run leaves alone
theorem pl_FW {ρ : Nat → Nat} {h h' : MH} {p q : Nat} {Y : Nat → Prop} (ht : TH c_sp ρ h) (hp : ρ p = 29) (hq : ρ q = 29) (F : FW (h_r h p 0) Y h h') : pl_same h h' q := by
  have r0 := (past_ob ht hp).1.1
  refine pl_mk ht hq (fun a k a0 ak _ => (F.2.2 a (ht.2 a a0).1).2.1 k (fun z => ?_))
  rcases ak with y | y
  · exact y (by rw [z.1]; exact r0)
  · omega
theorem pa_Rt : ∀ i, i < 59 → pa_R i ≠ 36 ∧ pa_R i ≠ 37 := by decide +kernel
theorem FW.mono {nd : Nat} {Y Y' : Nat → Prop} {h h' : MH} (F : FW nd Y h h') (k : ∀ a, Y a → Y' a) : FW nd Y' h h' := ⟨F.1, F.2.1, fun a ha => ⟨(F.2.2 a ha).1, (F.2.2 a ha).2.1, fun z => (F.2.2 a ha).2.2 (fun w => z (by
  rcases w with w | w | w | w
  · exact Or.inl w
  · exact Or.inr (Or.inl w)
  · exact Or.inr (Or.inr (Or.inl w))
  · exact Or.inr (Or.inr (Or.inr (k a w)))))⟩⟩
def run_Z (h : MH) (p a : Nat) : Prop := run_Y h p a ∨ a = h_r h p 9 ∨ a = h_r h p 10
-- an address of one past's region isn't what another past's run may change
theorem bk_not {ρ : Nat → Nat} {h : MH} {p a R : Nat} (ht : TH c_sp ρ h) (hp : ρ p = 29) (ha : ρ a = R) (n0 : R ≠ 39 ∨ a ≠ h_r h p 0) (n1 : R ≠ 40 ∨ a ≠ h_r h (h_r h p 0) 0) (n2 : R ≠ 41 ∨ a ≠ h_r h (h_r h p 0) 1) (n3 : R ≠ 29 ∨ a ≠ p) (n4 : R ≠ 16) (n5 : R ≠ 45 ∨ a ≠ h_r h (h_r h p 1) 2) (n6 : R ≠ 36 ∧ R ≠ 37) (n7 : ∀ i, i < 59 → R ≠ pa_R i ∨ a ≠ pa_w h p i) : ¬ (a = h_r h p 0 ∨ a = h_r h (h_r h p 0) 0 ∨ a = h_r h (h_r h p 0) 1 ∨ run_Z h p a) := fun z => by
  obtain ⟨⟨r0, r1, r2, r7, r8⟩, r4, rf⟩ := past_ob ht hp
  have rw_ := past_row ht hp
  have rc := (th_rf ht (R := 39) (by decide) rfl r0 (k := 0) rfl (fun z => by cases z)).2
  have rh := (th_rf ht (R := 39) (by decide) rfl r0 (k := 1) rfl (fun z => by cases z)).2
  have r9 := (th_rf ht (R := 29) (by decide) rfl hp (k := 9) (R2 := 36) rfl (fun z => by cases z)).2
  have r10 := (th_rf ht (R := 29) (by decide) rfl hp (k := 10) (R2 := 37) rfl (fun z => by cases z)).2
  rcases z with z | z | z | (z | z | ⟨i, hi, z⟩ | z) | z | z
  · rcases n0 with n | n
    · exact ne_r ha r0 n z
    · exact n z
  · rcases n1 with n | n
    · exact ne_r ha rc n z
    · exact n z
  · rcases n2 with n | n
    · exact ne_r ha rh n z
    · exact n z
  · rcases n3 with n | n
    · exact ne_r ha hp n z
    · exact n z
  · exact ne_r ha r4 n4 z
  · rcases n7 i hi with n | n
    · exact ne_r ha (rw_ i hi) n z
    · exact n z
  · rcases n5 with n | n
    · exact ne_r ha rf n z
    · exact n z
  · exact ne_r ha r9 n6.1 z
  · exact ne_r ha r10 n6.2 z
theorem bk_FW {ρ : Nat → Nat} {h h' : MH} {p q : Nat} (ht : TH c_sp ρ h) (hp : ρ p = 29) (hq : ρ q = 29) (x : pl_x h p q) (F : FW (h_r h p 0) (run_Z h p) h h') : bk_same h h' q := by
  obtain ⟨⟨q0, q1, q2, q7, q8⟩, q4, qf⟩ := past_ob ht hq
  have qw := past_row ht hq
  have qc := (th_rf ht (R := 39) (by decide) rfl q0 (k := 0) rfl (fun z => by cases z)).2
  obtain ⟨x1, x2, x3, x4, x5, x6, x7⟩ := x
  have qh := (th_rf ht (R := 39) (by decide) rfl q0 (k := 1) rfl (fun z => by cases z)).2
  have lt : ∀ {a : Nat}, ρ a ≠ 0 → a < 16 + h_n h := fun {a} ha => (ht.2 a ha).1
  have np : ∀ i, i < 59 → 29 ≠ pa_R i := fun i hi => Ne.symm (pa_Rn i hi).2.1
  have nn : ∀ i, i < 59 → 39 ≠ pa_R i := fun i hi => Ne.symm (pa_Rn i hi).2.2.1
  have nf : ∀ i, i < 59 → 45 ≠ pa_R i := fun i hi => Ne.symm (pa_Rn i hi).2.2.2.2.1
  have aq := (F.2.2 q (lt (by rw [hq]; decide))).2.2 (bk_not ht hp hq (Or.inl (by decide)) (Or.inl (by decide)) (Or.inl (by decide)) (Or.inr (Ne.symm x1)) (by decide) (Or.inl (by decide)) ⟨by decide, by decide⟩ (fun i hi => Or.inl (np i hi)))
  have an := (F.2.2 _ (lt (by rw [q0]; decide))).2.2 (bk_not ht hp q0 (Or.inr (Ne.symm x2)) (Or.inl (by decide)) (Or.inl (by decide)) (Or.inl (by decide)) (by decide) (Or.inl (by decide)) ⟨by decide, by decide⟩ (fun i hi => Or.inl (nn i hi)))
  have ac := (F.2.2 _ (lt (by rw [qc]; decide))).2.2 (bk_not ht hp qc (Or.inl (by decide)) (Or.inr (Ne.symm x6)) (Or.inl (by decide)) (Or.inl (by decide)) (by decide) (Or.inl (by decide)) ⟨by decide, by decide⟩ (fun i hi => by
    by_cases e : i = 11
    · subst e
      exact Or.inr (Ne.symm x6)
    · exact Or.inl (Ne.symm ((pa_Rn i hi).2.2.2.2.2.2.2.2.2.2.resolve_left e))))
  have ah := (F.2.2 _ (lt (by rw [qh]; decide))).2.2 (bk_not ht hp qh (Or.inl (by decide)) (Or.inl (by decide)) (Or.inr (Ne.symm x7)) (Or.inl (by decide)) (by decide) (Or.inl (by decide)) ⟨by decide, by decide⟩ (fun i hi => Or.inl (Ne.symm (pa_Rn i hi).2.2.2.2.2.1)))
  have af := (F.2.2 _ (lt (by rw [qf]; decide))).2.2 (bk_not ht hp qf (Or.inl (by decide)) (Or.inl (by decide)) (Or.inl (by decide)) (Or.inl (by decide)) (by decide) (Or.inr (Ne.symm x4)) ⟨by decide, by decide⟩ (fun i hi => Or.inl (nf i hi)))
  refine ⟨⟨Int32.toInt_inj.mp (aq.1 11), Int32.toInt_inj.mp (aq.1 12)⟩, fun i hi i12 j => ?_, af.2, (F.2.2 _ (lt (by rw [q0]; decide))).2.1 0 (fun z => x2 z.1.symm), ⟨Int32.toInt_inj.mp (an.1 5), Int32.toInt_inj.mp (an.1 6)⟩, fun j => Int32.toInt_inj.mp (ac.1 j), (F.2.2 _ (lt (by rw [q0]; decide))).2.1 1 (fun z => x2 z.1.symm), ah.2⟩
  have ei := qw i hi
  obtain ⟨s1, s2, s3, s4, s5, s6, -, -, -, -, s7⟩ := pa_Rn i hi
  have s7 := s7.resolve_left (by omega)
  refine Int32.toInt_inj.mp (((F.2.2 _ (lt (by rw [ei]; exact s1))).2.2 (bk_not ht hp ei (Or.inl s3) (Or.inl s7) (Or.inl s6) (Or.inl s2) s4 (Or.inl s5) (pa_Rt i hi) (fun i2 hi2 => ?_))).1 j)
  by_cases e : i2 = 11
  · subst e
    exact Or.inl s7
  · exact Or.inr (fun z => x5 i2 i hi2 hi e (by omega) z.symm)
-- what a finished run tells, of it the books
theorem bk_pk {h : MH} {p : Nat} {Y : RYt} (k : pk_of h p Y) (hd : hd_0 h p Y) : bk_0 h p Y := by
  obtain ⟨cs, tt, ⟨⟨a1, a2, a3⟩, a4⟩, b, c, d⟩ := k
  exact ⟨⟨a1, a2, a3⟩, fun v hv => (a4 v hv).2, b, c, ⟨d, hd⟩, ⟨ps_l (ry_s Y), cs⟩, tt, fun v hv => (a4 v hv).1⟩
-- one past run: all others stay
theorem run_pl {ρ : Nat → Nat} {h h' : MH} {k : Nat} (ht : TH c_sp ρ h) (h16 : ρ 16 = 6) (pl : pl_t h) (hk : k < 4) (k0 : r_sl h k ≠ 0) (F : FW (h_r h (r_sl h k) 0) (run_Z h (r_sl h k)) h h') : pl_t h' ∧ (∀ j, r_sl h' j = r_sl h j) ∧ ∀ j, j < 4 → j ≠ k → r_sl h j ≠ 0 → ∀ Y, bk_0 h (r_sl h j) Y → bk_0 h' (r_sl h j) Y := by
  have fP : ρ (r_P h) = 9 := (th_rf ht (R := 6) (by decide) rfl h16 (k := 2) rfl (fun z => by cases z)).2
  have hp := sl_ob ht h16 hk k0
  have r0 := (past_ob ht hp).1.1
  have rr : ∀ a k2, ρ a ≠ 0 → ρ a ≠ 39 → h_r h' a k2 = h_r h a k2 := fun a k2 a0 an => (F.2.2 a (ht.2 a a0).1).2.1 k2 (fun z => an (by rw [z.1]; exact r0))
  have eP : r_P h' = r_P h := rr 16 2 (by rw [h16]; decide) (by rw [h16]; decide)
  have es : ∀ j, r_sl h' j = r_sl h j := fun j => by
    unfold r_sl
    rw [eP]
    exact rr _ j (by rw [fP]; decide) (by rw [fP]; decide)
  have sm : ∀ j, j < 4 → r_sl h j ≠ 0 → pl_same h h' (r_sl h j) := fun j hj j0 => pl_FW ht hp (sl_ob ht h16 hj j0) F
  have bks : ∀ j, j < 4 → j ≠ k → r_sl h j ≠ 0 → bk_same h h' (r_sl h j) := fun j hj hn j0 => bk_FW ht hp (sl_ob ht h16 hj j0) ((pl k hk k0).2 j hj hn j0) F
  have c1 : ∀ j, j < 4 → j ≠ k → r_sl h j ≠ 0 → h_r h' (h_r h' (r_sl h j) 0) 0 = h_r h (h_r h (r_sl h j) 0) 0 := fun j hj hn j0 => ce_same (sm j hj j0) (bks j hj hn j0)
  have c2 : h_r h' (h_r h' (r_sl h k) 0) 0 = h_r h (h_r h (r_sl h k) 0) 0 ∨ 16 + h_n h ≤ h_r h' (h_r h' (r_sl h k) 0) 0 := by
    rw [(sm k hk k0).1.1]
    exact F.2.1 0 (by decide)
  have c3 : ∀ j, j < 4 → r_sl h j ≠ 0 → h_r h (h_r h (r_sl h j) 0) 0 < 16 + h_n h := fun j hj j0 => by
    have q := (th_rf ht (R := 39) (by decide) rfl (past_ob ht (sl_ob ht h16 hj j0)).1.1 (k := 0) rfl (fun z => by cases z)).2
    exact (ht.2 _ (by rw [q]; decide)).1
  have d1 : ∀ j, j < 4 → j ≠ k → r_sl h j ≠ 0 → h_r h' (h_r h' (r_sl h j) 0) 1 = h_r h (h_r h (r_sl h j) 0) 1 := fun j hj hn j0 => he_same (sm j hj j0) (bks j hj hn j0)
  have d2 : h_r h' (h_r h' (r_sl h k) 0) 1 = h_r h (h_r h (r_sl h k) 0) 1 ∨ 16 + h_n h ≤ h_r h' (h_r h' (r_sl h k) 0) 1 := by
    rw [(sm k hk k0).1.1]
    exact F.2.1 1 (by decide)
  have d3 : ∀ j, j < 4 → r_sl h j ≠ 0 → h_r h (h_r h (r_sl h j) 0) 1 < 16 + h_n h := fun j hj j0 => by
    have q := (th_rf ht (R := 39) (by decide) rfl (past_ob ht (sl_ob ht h16 hj j0)).1.1 (k := 1) rfl (fun z => by cases z)).2
    exact (ht.2 _ (by rw [q]; decide)).1
  refine ⟨fun j hj j0 => ?_, es, fun j hj hn j0 Y b => bk_sameB (sm j hj j0) (bks j hj hn j0) b⟩
  rw [es] at j0 ⊢
  obtain ⟨y1, y2⟩ := pl j hj j0
  refine ⟨pl_sameO (sm j hj j0) y1, fun i hi hn i0 => ?_⟩
  rw [es] at i0 ⊢
  refine pl_sameX (sm j hj j0) (sm i hi i0) (y2 i hi hn i0) ?_ ?_
  · have y6 := (y2 i hi hn i0).2.2.2.2.2.1
    have t3 := c3 i hi i0
    have u3 := c3 j hj j0
    by_cases ej : j = k
    · subst ej
      have e1 := c1 i hi hn i0
      omega
    · have e1 := c1 j hj ej j0
      by_cases ei : i = k
      · subst ei
        omega
      · have e2 := c1 i hi ei i0
        omega
  · have y6 := (y2 i hi hn i0).2.2.2.2.2.2
    have t3 := d3 i hi i0
    have u3 := d3 j hj j0
    by_cases ej : j = k
    · subst ej
      have e1 := d1 i hi hn i0
      omega
    · have e1 := d1 j hj ej j0
      by_cases ei : i = k
      · subst ei
        omega
      · have e2 := d1 i hi ei i0
        omega
end
section
-- A PAST FOR A ROW, where it lies
def pf_E (h : MH) (k p : Nat) (h' : MH) : Prop := (r_sl h k ≠ 0 ∧ p = r_sl h k ∧ h' = h) ∨ (r_sl h k = 0 ∧ p = 16 + h_n h + 0 ∧ ∃ h2, SX h h2 past_D past_Z ∧ h' = h_sr h2 (r_P h) k (16 + h_n h + 0))
section
variable {h : MH} {Q : Option Value → MH → Prop} {ρ : Nat → Nat}
theorem r_pastFor {x1 : Int32} (ht : TH c_sp ρ h) (hm : ρ 16 = 6) (b0 : 0 ≤ x1.toInt) (b3 : x1.toInt ≤ 3) (g : ∀ (h' : MH) (p : Nat), pf_E h x1.toInt.toNat p h' → Q (some (.ref p)) h') : HJ 41 0 (lv_args 0 [.ref 16, .int x1]) [] h Q := by
  have fP : ρ (r_P h) = 9 := (th_rf ht (R := 6) (by decide) rfl hm (k := 2) rfl (fun z => by cases z)).2
  have k16 : (h_k h 16).1 = 9 := (t_spec ht (by decide) (rfl : c_sp[6]? = some _) hm).1
  have cP := t_spec ht (by decide) (rfl : c_sp[9]? = some _) fP
  have kP : (h_k h (r_P h)).1 = 31 := cP.1
  have lP : 4 ≤ (h_k h (r_P h)).2 := cP.2.1.1
  have P16 : 16 ≤ r_P h := cP.2.2.1 rfl
  have Pl : r_P h < 16 + h_n h := (ht.2 _ (by rw [fP]; decide)).1
  have l16 : 16 < 16 + h_n h := (ht.2 _ (by rw [hm]; decide)).1
  have ne16 : (16 : Nat) ≠ r_P h := fun z => by rw [← z, hm] at fP; cases fP
  have el : t_rf ρ 29 false (h_r h (r_P h) x1.toInt.toNat) := cP.2.2.2 x1.toInt.toNat (.inr (.inr (29, false))) rfl (fun _ => by omega)
  have el16 : h_r h (r_P h) x1.toInt.toNat = 0 ∨ 16 ≤ h_r h (r_P h) x1.toInt.toNat := by
    rcases el with q | ⟨-, -, q⟩
    · exact Or.inl q.1
    · exact Or.inr ((t_spec ht (by decide) (rfl : c_sp[29]? = some _) q).2.2.1 rfl)
  refine hI_al (k := 0) rfl rfl rfl ?_
  refine hI_gr rfl rfl rfl k16 rfl ?_
  refine hI_il (k := 1) rfl rfl rfl ?_
  refine hI_aa (o := r_P h) rfl ⟨by rw [kP]; decide, by rw [kP]; decide⟩ b0 (by omega) rfl ?_
  refine hI_nn (t := 22) rfl (by decide) rfl el16 (fun hne => ?_) (fun he => ?_)
  · refine hI_al (k := 0) rfl rfl rfl ?_
    refine hI_gr rfl rfl rfl k16 rfl ?_
    refine hI_il (k := 1) rfl rfl rfl ?_
    refine hI_aa (o := r_P h) rfl ⟨by rw [kP]; decide, by rw [kP]; decide⟩ b0 (by omega) rfl ?_
    exact hI_ra rfl rfl (g h _ (Or.inl ⟨hne, rfl, rfl⟩))
  · refine hI_al (k := 0) rfl rfl rfl ?_
    refine hI_gr rfl rfl rfl k16 rfl ?_
    refine hI_il (k := 1) rfl rfl rfl ?_
    refine hS_new (c := 3) (j := 0) (sx_start (h := h)) rfl rfl (by decide) rfl rfl (fun h1 S1 => ?_)
    have S2 : SX h h1 [((4, 14), [])] 14 := sx_eq S1 (by decide +kernel)
    refine hI_dup rfl rfl rfl ?_
    refine hS_call (j := 42) (q := 0) S2 rfl rfl (by decide +kernel) rfl (by decide) rfl (by decide +kernel) rfl (by show 3 ≤ 8; decide) (by decide +kernel) rfl ?_
    refine c_past S2 (fun h2 S => ?_)
    show HJ 41 21 _ [.ref (16 + h_n h + 0), .int x1, .ref (r_P h)] h2 Q
    have c0 := S.2.2 0 _ rfl
    have kP2 : (h_k h2 (r_P h)).1 = 31 ∧ 4 ≤ (h_k h2 (r_P h)).2 := by rw [(S.2.1 _ Pl).1]; exact ⟨kP, lP⟩
    refine hI_aast (o := r_P h) (x := 16 + h_n h + 0) rfl P16 (by rw [kP2.1]; decide) b0 (by have := kP2.2; omega) (by omega) (by rw [c0.1, kP2.1]; rfl) rfl ?_
    have E9 : pf_E h x1.toInt.toNat (16 + h_n h + 0) (h_sr h2 (r_P h) x1.toInt.toNat (16 + h_n h + 0)) := Or.inr ⟨he, rfl, h2, S, rfl⟩
    generalize hh : h_sr h2 (r_P h) x1.toInt.toNat (16 + h_n h + 0) = h3 at E9 ⊢
    have s3k : ∀ a, h_k h3 a = h_k h2 a := fun a => by rw [← hh]; rfl
    have s3r : ∀ a j, ¬ (a = r_P h ∧ j = x1.toInt.toNat) → h_r h3 a j = h_r h2 a j := fun a j hn => by rw [← hh, s_srR, if_neg hn]
    have s30 : h_r h3 (r_P h) x1.toInt.toNat = 16 + h_n h + 0 := by rw [← hh, s_srR, if_pos ⟨rfl, rfl⟩]
    refine hI_al (k := 0) rfl rfl rfl ?_
    refine hI_gr rfl rfl rfl (by rw [s3k, (S.2.1 16 l16).1]; exact k16) rfl ?_
    rw [s3r 16 _ (fun z => ne16 z.1), ((S.2.1 16 l16).2 _).2.2]
    refine hI_il (k := 1) rfl rfl rfl ?_
    refine hI_aa (o := r_P h) rfl (by rw [s3k, kP2.1]; decide) b0 (by rw [s3k]; have := kP2.2; omega) rfl ?_
    rw [s30]
    exact hI_ra rfl rfl (g h3 _ E9)
end
-- a new past's rows, one behind the other
def past_X (i : Nat) : Nat := if i < 18 then [7, 8, 9, 10, 11, 12, 13, 66, 67, 4, 5, 2, 62, 63, 64, 65, 16, 17].getD i 0 else i + 3
theorem past_Xn : ∀ i, i < 59 → ∀ j, j < 59 → i ≠ j → past_X i ≠ past_X j := by decide +kernel
theorem past_gl : ∀ v, v < 41 → m_lk (nx_gl 20 41) v = some (21 + v) := by decide +kernel
theorem past_at {h h2 : MH} (S : SX h h2 past_D past_Z) : (h_r h2 (16 + h_n h + 0) 0 = 16 + h_n h + 1 ∧ h_r h2 (16 + h_n h + 0) 1 = 16 + h_n h + 15 ∧ h_r h2 (16 + h_n h + 1) 4 = 16 + h_n h + 6 ∧ h_r h2 (16 + h_n h + 15) 2 = 16 + h_n h + 18) ∧ ∀ i, i < 59 → pa_w h2 (16 + h_n h + 0) i = 16 + h_n h + past_X i := by
  have c0 := S.2.2 0 _ rfl
  have c1 := S.2.2 1 _ rfl
  have c6 := S.2.2 6 _ rfl
  have c15 := S.2.2 15 _ rfl
  have c20 := S.2.2 20 _ rfl
  have p0 : h_r h2 (16 + h_n h + 0) 0 = 16 + h_n h + 1 := ((c0.2 0 (by decide)).2 (Or.inl (by decide)))
  have p1 : h_r h2 (16 + h_n h + 0) 1 = 16 + h_n h + 15 := ((c0.2 1 (by decide)).2 (Or.inl (by decide)))
  have p2 : h_r h2 (16 + h_n h + 0) 2 = 16 + h_n h + 20 := ((c0.2 2 (by decide)).2 (Or.inl (by decide)))
  have p3 : h_r h2 (16 + h_n h + 0) 3 = 16 + h_n h + 62 := ((c0.2 3 (by decide)).2 (Or.inl (by decide)))
  have p4 : h_r h2 (16 + h_n h + 0) 4 = 16 + h_n h + 63 := ((c0.2 4 (by decide)).2 (Or.inl (by decide)))
  have p5 : h_r h2 (16 + h_n h + 0) 5 = 16 + h_n h + 64 := ((c0.2 5 (by decide)).2 (Or.inl (by decide)))
  have p6 : h_r h2 (16 + h_n h + 0) 6 = 16 + h_n h + 65 := ((c0.2 6 (by decide)).2 (Or.inl (by decide)))
  have p7 : h_r h2 (16 + h_n h + 0) 7 = 16 + h_n h + 66 := ((c0.2 7 (by decide)).2 (Or.inl (by decide)))
  have p8 : h_r h2 (16 + h_n h + 0) 8 = 16 + h_n h + 67 := ((c0.2 8 (by decide)).2 (Or.inl (by decide)))
  have n0 : h_r h2 (16 + h_n h + 1) 0 = 16 + h_n h + 2 := ((c1.2 0 (by decide)).2 (Or.inl (by decide)))
  have n2 : h_r h2 (16 + h_n h + 1) 2 = 16 + h_n h + 4 := ((c1.2 2 (by decide)).2 (Or.inl (by decide)))
  have n3 : h_r h2 (16 + h_n h + 1) 3 = 16 + h_n h + 5 := ((c1.2 3 (by decide)).2 (Or.inl (by decide)))
  have n4 : h_r h2 (16 + h_n h + 1) 4 = 16 + h_n h + 6 := ((c1.2 4 (by decide)).2 (Or.inl (by decide)))
  have w0 : h_r h2 (16 + h_n h + 6) 0 = 16 + h_n h + 7 := ((c6.2 0 (by decide)).2 (Or.inl (by decide)))
  have w1 : h_r h2 (16 + h_n h + 6) 1 = 16 + h_n h + 8 := ((c6.2 1 (by decide)).2 (Or.inl (by decide)))
  have w2 : h_r h2 (16 + h_n h + 6) 2 = 16 + h_n h + 9 := ((c6.2 2 (by decide)).2 (Or.inl (by decide)))
  have w3 : h_r h2 (16 + h_n h + 6) 3 = 16 + h_n h + 10 := ((c6.2 3 (by decide)).2 (Or.inl (by decide)))
  have w4 : h_r h2 (16 + h_n h + 6) 4 = 16 + h_n h + 11 := ((c6.2 4 (by decide)).2 (Or.inl (by decide)))
  have w5 : h_r h2 (16 + h_n h + 6) 5 = 16 + h_n h + 12 := ((c6.2 5 (by decide)).2 (Or.inl (by decide)))
  have w6 : h_r h2 (16 + h_n h + 6) 6 = 16 + h_n h + 13 := ((c6.2 6 (by decide)).2 (Or.inl (by decide)))
  have l0 : h_r h2 (16 + h_n h + 15) 0 = 16 + h_n h + 16 := ((c15.2 0 (by decide)).2 (Or.inl (by decide)))
  have l1 : h_r h2 (16 + h_n h + 15) 1 = 16 + h_n h + 17 := ((c15.2 1 (by decide)).2 (Or.inl (by decide)))
  have l2 : h_r h2 (16 + h_n h + 15) 2 = 16 + h_n h + 18 := ((c15.2 2 (by decide)).2 (Or.inl (by decide)))
  refine ⟨⟨p0, p1, n4, l2⟩, fun i hi => ?_⟩
  by_cases h18 : i < 18
  · match i, h18 with
    | 0, _ =>
      show h_r h2 (h_r h2 (h_r h2 (16 + h_n h + 0) 0) 4) 0 = _
      rw [p0, n4]
      exact w0
    | 1, _ =>
      show h_r h2 (h_r h2 (h_r h2 (16 + h_n h + 0) 0) 4) 1 = _
      rw [p0, n4]
      exact w1
    | 2, _ =>
      show h_r h2 (h_r h2 (h_r h2 (16 + h_n h + 0) 0) 4) 2 = _
      rw [p0, n4]
      exact w2
    | 3, _ =>
      show h_r h2 (h_r h2 (h_r h2 (16 + h_n h + 0) 0) 4) 3 = _
      rw [p0, n4]
      exact w3
    | 4, _ =>
      show h_r h2 (h_r h2 (h_r h2 (16 + h_n h + 0) 0) 4) 4 = _
      rw [p0, n4]
      exact w4
    | 5, _ =>
      show h_r h2 (h_r h2 (h_r h2 (16 + h_n h + 0) 0) 4) 5 = _
      rw [p0, n4]
      exact w5
    | 6, _ =>
      show h_r h2 (h_r h2 (h_r h2 (16 + h_n h + 0) 0) 4) 6 = _
      rw [p0, n4]
      exact w6
    | 7, _ =>
      exact p7
    | 8, _ =>
      exact p8
    | 9, _ =>
      show h_r h2 (h_r h2 (16 + h_n h + 0) 0) 2 = _
      rw [p0]
      exact n2
    | 10, _ =>
      show h_r h2 (h_r h2 (16 + h_n h + 0) 0) 3 = _
      rw [p0]
      exact n3
    | 11, _ =>
      show h_r h2 (h_r h2 (16 + h_n h + 0) 0) 0 = _
      rw [p0]
      exact n0
    | 12, _ =>
      exact p3
    | 13, _ =>
      exact p4
    | 14, _ =>
      exact p5
    | 15, _ =>
      exact p6
    | 16, _ =>
      show h_r h2 (h_r h2 (16 + h_n h + 0) 1) 0 = _
      rw [p1]
      exact l0
    | 17, _ =>
      show h_r h2 (h_r h2 (16 + h_n h + 0) 1) 1 = _
      rw [p1]
      exact l1
    | q + 18, z => exact absurd z (by omega)
  · have e : pa_w h2 (16 + h_n h + 0) i = h_r h2 (h_r h2 (16 + h_n h + 0) 2) (i - 18) := by
      unfold pa_w
      rw [if_neg (by omega), if_neg (by omega), if_neg (by omega), if_neg (by omega), if_neg (by omega), if_neg (by omega), if_neg (by omega), if_neg h18]
    have e2 : past_X i = i + 3 := if_neg h18
    rw [e, e2, p2]
    have c := (c20.2 (i - 18) (by omega)).2 (Or.inr (by decide))
    rw [c]
    unfold nc_r
    dsimp only
    rw [past_gl (i - 18) (by omega)]
    show 16 + h_n h + (21 + (i - 18)) = 16 + h_n h + (i + 3)
    omega
-- pasts stand apart, with the new one too; all others stay
theorem nx_ne {a n c : Nat} (h : a < 16 + n) : 16 + n + c ≠ a := by omega
theorem nx_ne2 {a n c : Nat} (h : a < 16 + n) : a ≠ 16 + n + c := by omega
theorem nx_n0 {n c : Nat} : 16 + n + c ≠ 0 := by omega
set_option maxHeartbeats 4000000 in
theorem pf_pl {ρ : Nat → Nat} {h h' : MH} {k p : Nat} (ht : TH c_sp ρ h) (h16 : ρ 16 = 6) (hk : k < 4) (pl : pl_t h) (E : pf_E h k p h') : (p ≠ 0 ∧ r_sl h' k = p) ∧ pl_t h' ∧ (∀ j, j ≠ k → r_sl h' j = r_sl h j) ∧ ∀ j, j < 4 → r_sl h j ≠ 0 → r_sl h' j = r_sl h j ∧ ∀ Y, bk_0 h (r_sl h j) Y → bk_0 h' (r_sl h j) Y := by
  rcases E with ⟨e1, e2, e3⟩ | ⟨e1, e2, h2, S, e3⟩
  · subst e2 e3
    exact ⟨⟨e1, rfl⟩, pl, fun _ _ => rfl, fun _ _ _ => ⟨rfl, fun _ b => b⟩⟩
  · subst e2
    have fP : ρ (r_P h) = 9 := (th_rf ht (R := 6) (by decide) rfl h16 (k := 2) rfl (fun z => by cases z)).2
    have lt : ∀ {x : Nat}, ρ x ≠ 0 → x < 16 + h_n h := fun {x} hx => (ht.2 x hx).1
    have Pl := lt (by rw [fP]; decide : ρ (r_P h) ≠ 0)
    have lr : ∀ a j, a < 16 + h_n h → ¬ (a = r_P h ∧ j = k) → h_r h' a j = h_r h a j := fun a j ha hn => by rw [e3, s_srR, if_neg hn]; exact ((S.2.1 a ha).2 j).2.2
    have li : ∀ a j, a < 16 + h_n h → h_i h' a j = h_i h a j := fun a j ha => by rw [e3]; exact ((S.2.1 a ha).2 j).1
    have ll : ∀ a j, a < 16 + h_n h → h_l h' a j = h_l h a j := fun a j ha => by rw [e3]; exact ((S.2.1 a ha).2 j).2.1
    have eP : r_P h' = r_P h := lr 16 2 (lt (by rw [h16]; decide)) (fun z => by have := z.1; rw [← this, h16] at fP; cases fP)
    have esk : r_sl h' k = 16 + h_n h + 0 := by
      unfold r_sl
      rw [eP, e3, s_srR, if_pos ⟨rfl, rfl⟩]
    have esj : ∀ j, j ≠ k → r_sl h' j = r_sl h j := fun j hj => by
      unfold r_sl
      rw [eP]
      exact lr _ _ Pl (fun z => hj z.2)
    have sm : ∀ j, j < 4 → r_sl h j ≠ 0 → pl_same h h' (r_sl h j) := fun j hj j0 => pl_mk ht (sl_ob ht h16 hj j0) (fun a k2 a0 _ aP => lr a k2 (lt a0) (fun z => aP (by rw [z.1]; exact fP)))
    have jk : ∀ j, r_sl h j ≠ 0 → j ≠ k := fun j j0 z => j0 (by rw [z]; exact e1)
    have nr : ∀ a j, h_r h' (16 + h_n h + a) j = h_r h2 (16 + h_n h + a) j := fun a j => by rw [e3, s_srR, if_neg (fun z => by have := z.1; omega)]
    obtain ⟨⟨a0, a1, a2, a3⟩, a4⟩ := past_at S
    have b0 : h_r h' (16 + h_n h + 0) 0 = 16 + h_n h + 1 := (nr 0 0).trans a0
    have b1 : h_r h' (16 + h_n h + 0) 1 = 16 + h_n h + 15 := (nr 0 1).trans a1
    have b2 : h_r h' (16 + h_n h + 1) 4 = 16 + h_n h + 6 := (nr 1 4).trans a2
    have b3 : h_r h' (16 + h_n h + 15) 2 = 16 + h_n h + 18 := (nr 15 2).trans a3
    have c20 : h_r h2 (16 + h_n h + 0) 2 = 16 + h_n h + 20 := ((S.2.2 0 _ rfl).2 2 (by decide)).2 (Or.inl (by decide))
    have b4 : ∀ i, i < 59 → pa_w h' (16 + h_n h + 0) i = 16 + h_n h + past_X i := fun i hi => by
      rw [← a4 i hi]
      unfold pa_w
      simp only [nr 0]
      rw [a0, a1, c20, nr 1, nr 1, nr 1, nr 1, a2, nr 6, nr 15, nr 20]
    have old : ∀ q, ρ q = 29 → pl_same h h' q → (q < 16 + h_n h ∧ h_r h' q 0 < 16 + h_n h ∧ h_r h' (h_r h' q 0) 4 < 16 + h_n h ∧ h_r h' (h_r h' q 1) 2 < 16 + h_n h) ∧ ∀ i, i < 59 → i ≠ 11 → pa_w h' q i < 16 + h_n h := fun q hq s => by
      obtain ⟨⟨s0, s1, s2, s3⟩, s4⟩ := s
      obtain ⟨⟨r0, r1, -⟩, r4, rf⟩ := past_ob ht hq
      refine ⟨⟨lt (by rw [hq]; decide), by rw [s0]; exact lt (by rw [r0]; decide), by rw [s0, s2]; exact lt (by rw [r4]; decide), by rw [s1, s3]; exact lt (by rw [rf]; decide)⟩, fun i hi h11 => ?_⟩
      rw [s4 i hi h11]
      exact lt (by rw [past_row ht hq i hi]; exact (pa_Rn i hi).1)
    have ndS : ∀ j, j < 4 → r_sl h j ≠ 0 → nd_same h h' (r_sl h j) := fun j hj j0 => by
      have q0 := (past_ob ht (sl_ob ht h16 hj j0)).1.1
      have qc := (th_rf ht (R := 39) (by decide) rfl q0 (k := 0) rfl (fun z => by cases z)).2
      have l0 := lt (by rw [q0]; decide : ρ (h_r h (r_sl h j) 0) ≠ 0)
      have qh := (th_rf ht (R := 39) (by decide) rfl q0 (k := 1) rfl (fun z => by cases z)).2
      exact ⟨lr _ _ l0 (fun z => by have w := z.1; rw [w, fP] at q0; cases q0), ⟨li _ _ l0, li _ _ l0⟩, fun q => li _ _ (lt (by rw [qc]; decide)), lr _ _ l0 (fun z => by have w := z.1; rw [w, fP] at q0; cases q0), fun q => ll _ _ (lt (by rw [qh]; decide))⟩
    have ceN : ∀ j, j < 4 → r_sl h j ≠ 0 → h_r h' (h_r h' (r_sl h j) 0) 0 = h_r h (h_r h (r_sl h j) 0) 0 ∧ h_r h (h_r h (r_sl h j) 0) 0 < 16 + h_n h := fun j hj j0 => by
      have q0 := (past_ob ht (sl_ob ht h16 hj j0)).1.1
      have qc := (th_rf ht (R := 39) (by decide) rfl q0 (k := 0) rfl (fun z => by cases z)).2
      refine ⟨?_, lt (by rw [qc]; decide)⟩
      rw [(sm j hj j0).1.1]
      exact (ndS j hj j0).1
    have heN : ∀ j, j < 4 → r_sl h j ≠ 0 → h_r h' (h_r h' (r_sl h j) 0) 1 = h_r h (h_r h (r_sl h j) 0) 1 ∧ h_r h (h_r h (r_sl h j) 0) 1 < 16 + h_n h := fun j hj j0 => by
      have q0 := (past_ob ht (sl_ob ht h16 hj j0)).1.1
      have qh := (th_rf ht (R := 39) (by decide) rfl q0 (k := 1) rfl (fun z => by cases z)).2
      refine ⟨?_, lt (by rw [qh]; decide)⟩
      rw [(sm j hj j0).1.1]
      exact (ndS j hj j0).2.2.2.1
    have c11 : h_r h2 (16 + h_n h + 1) 1 = 16 + h_n h + 3 := ((S.2.2 1 _ rfl).2 1 (by decide)).2 (Or.inl (by decide))
    have b12 : h_r h' (16 + h_n h + 1) 1 = 16 + h_n h + 3 := (nr 1 1).trans c11
    have b11 : h_r h' (16 + h_n h + 1) 0 = 16 + h_n h + past_X 11 := by
      have := b4 11 (by decide)
      unfold pa_w at this
      rw [if_neg (by decide), if_neg (by decide), if_neg (by decide), if_neg (by decide), if_neg (by decide), if_pos rfl, b0] at this
      exact this
    refine ⟨⟨nx_n0, esk⟩, fun j hj j0 => ?_, esj, fun j hj j0 => ⟨esj j (jk j j0), fun Y b => bk_sameB (sm j hj j0) ⟨⟨li _ _ (lt (by rw [sl_ob ht h16 hj j0]; decide)), li _ _ (lt (by rw [sl_ob ht h16 hj j0]; decide))⟩, fun i h1 h3 q => li _ _ (lt (by rw [past_row ht (sl_ob ht h16 hj j0) i (by omega)]; exact (pa_Rn i (by omega)).1)), fun q => ll _ _ (lt (by rw [(past_ob ht (sl_ob ht h16 hj j0)).2.2]; decide)), ndS j hj j0⟩ b⟩⟩
    by_cases ej : j = k
    · subst ej
      rw [esk]
      refine ⟨fun i i2 hi hi2 _ _ hn => ?_, fun q hq hn q0 => ?_⟩
      · rw [b4 i hi, b4 i2 hi2]
        have := past_Xn i hi i2 hi2 hn
        omega
      · rw [esj q hn] at q0 ⊢
        obtain ⟨⟨o1, o2, o3, o4⟩, o5⟩ := old _ (sl_ob ht h16 hq q0) (sm q hq q0)
        unfold pl_x
        rw [b0, b2, b1, b3]
        refine ⟨nx_ne o1, nx_ne o2, nx_ne o3, nx_ne o4, fun i i2 hi hi2 i11 i211 => ?_, by rw [b11, (ceN q hq q0).1]; exact nx_ne (ceN q hq q0).2, by rw [b12, (heN q hq q0).1]; exact nx_ne (heN q hq q0).2⟩
        rw [b4 i hi]
        exact nx_ne (o5 i2 hi2 i211)
    · rw [esj j ej] at j0 ⊢
      obtain ⟨y1, y2⟩ := pl j hj j0
      obtain ⟨⟨o1, o2, o3, o4⟩, o5⟩ := old _ (sl_ob ht h16 hj j0) (sm j hj j0)
      refine ⟨pl_sameO (sm j hj j0) y1, fun q hq hn q0 => ?_⟩
      by_cases eq : q = k
      · subst eq
        rw [esk]
        unfold pl_x
        rw [b0, b2, b1, b3]
        refine ⟨nx_ne2 o1, nx_ne2 o2, nx_ne2 o3, nx_ne2 o4, fun i i2 hi hi2 i11 i211 => ?_, by rw [b11, (ceN j hj j0).1]; exact nx_ne2 (ceN j hj j0).2, by rw [b12, (heN j hj j0).1]; exact nx_ne2 (heN j hj j0).2⟩
        rw [b4 i2 hi2]
        exact nx_ne2 (o5 i hi i11)
      · rw [esj q eq] at q0 ⊢
        exact pl_sameX (sm j hj j0) (sm q hq q0) (y2 q hq hn q0) (by rw [(ceN j hj j0).1, (ceN q hq q0).1]; exact (y2 q hq hn q0).2.2.2.2.2.1) (by rw [(heN j hj j0).1, (heN q hq q0).1]; exact (y2 q hq hn q0).2.2.2.2.2.2)
end
section
-- PASTS, by frames that may change what is told
def pl_D : List (Nat × Nat) := [(6, 0), (6, 2), (6, 1002), (9, 1001), (9, 1002), (29, 0), (29, 1), (29, 2), (29, 3), (29, 4), (29, 5), (29, 6), (29, 7), (29, 8), (29, 11), (39, 2), (39, 3), (39, 4), (16, 0), (16, 1), (16, 2), (16, 3), (16, 4), (16, 5), (16, 6), (42, 0), (42, 1), (42, 2), (30, 1001), (30, 1002), (31, 1001), (31, 1002), (32, 1001), (32, 1002), (33, 1001), (33, 1002), (34, 1001), (34, 1002), (43, 1001), (43, 1002), (44, 1001), (44, 1002), (45, 1001), (45, 1002), (39, 0), (39, 5), (39, 6), (29, 12), (40, 1001), (40, 1002), (35, 1001), (35, 1002), (39, 1), (41, 1001), (41, 1002)]
theorem pl_fr2 {ρ ρ' : Nat → Nat} {W : List (Nat × Nat)} {h h' : MH} {p : Nat} (ht : TH c_sp ρ h) (f : FQ ρ ρ' W h h') (hn : d_no pl_D W = true) (hp : ρ p = 29) : pl_same h h' p ∧ bk_same h h' p := by
  have lt : ∀ {x : Nat}, ρ x ≠ 0 → x < 16 + h_n h := fun {x} hx => (ht.2 x hx).1
  obtain ⟨⟨r0, r1, r2, r7, r8⟩, r4, rf⟩ := past_ob ht hp
  have rw_ := past_row ht hp
  have lp := lt (by rw [hp]; decide)
  have l0 := lt (by rw [r0]; decide)
  have l1 := lt (by rw [r1]; decide)
  have l2 := lt (by rw [r2]; decide)
  have l4 := lt (by rw [r4]; decide)
  have lf := lt (by rw [rf]; decide)
  have p0 := (fq_f f hn (List.mem_of_getElem? (i := 5) rfl) (by decide) hp lp).2
  have p1 := (fq_f f hn (List.mem_of_getElem? (i := 6) rfl) (by decide) hp lp).2
  have p2 := (fq_f f hn (List.mem_of_getElem? (i := 7) rfl) (by decide) hp lp).2
  have p3 := (fq_f f hn (List.mem_of_getElem? (i := 8) rfl) (by decide) hp lp).2
  have p4 := (fq_f f hn (List.mem_of_getElem? (i := 9) rfl) (by decide) hp lp).2
  have p5 := (fq_f f hn (List.mem_of_getElem? (i := 10) rfl) (by decide) hp lp).2
  have p6 := (fq_f f hn (List.mem_of_getElem? (i := 11) rfl) (by decide) hp lp).2
  have p7 := (fq_f f hn (List.mem_of_getElem? (i := 12) rfl) (by decide) hp lp).2
  have p8 := (fq_f f hn (List.mem_of_getElem? (i := 13) rfl) (by decide) hp lp).2
  have n2 := (fq_f f hn (List.mem_of_getElem? (i := 15) rfl) (by decide) r0 l0).2
  have n3 := (fq_f f hn (List.mem_of_getElem? (i := 16) rfl) (by decide) r0 l0).2
  have n4 := (fq_f f hn (List.mem_of_getElem? (i := 17) rfl) (by decide) r0 l0).2
  have w0 := (fq_f f hn (List.mem_of_getElem? (i := 18) rfl) (by decide) r4 l4).2
  have w1 := (fq_f f hn (List.mem_of_getElem? (i := 19) rfl) (by decide) r4 l4).2
  have w2 := (fq_f f hn (List.mem_of_getElem? (i := 20) rfl) (by decide) r4 l4).2
  have w3 := (fq_f f hn (List.mem_of_getElem? (i := 21) rfl) (by decide) r4 l4).2
  have w4 := (fq_f f hn (List.mem_of_getElem? (i := 22) rfl) (by decide) r4 l4).2
  have w5 := (fq_f f hn (List.mem_of_getElem? (i := 23) rfl) (by decide) r4 l4).2
  have w6 := (fq_f f hn (List.mem_of_getElem? (i := 24) rfl) (by decide) r4 l4).2
  have i0 := (fq_f f hn (List.mem_of_getElem? (i := 25) rfl) (by decide) r1 l1).2
  have i1 := (fq_f f hn (List.mem_of_getElem? (i := 26) rfl) (by decide) r1 l1).2
  have i2 := (fq_f f hn (List.mem_of_getElem? (i := 27) rfl) (by decide) r1 l1).2
  have eR := fun j => (fq_e j f hn (List.mem_of_getElem? (i := 28) rfl) (List.mem_of_getElem? (i := 29) rfl) r2 l2).2
  have W_ : ∀ i, i < 59 → i ≠ 11 → pa_w h' p i = pa_w h p i := fun i hi h11 => by
    by_cases h18 : i < 18
    · match i, h18 with
      | 0, _ =>
        show h_r h' (h_r h' (h_r h' p 0) 4) 0 = _
        rw [p0, n4]
        exact w0
      | 1, _ =>
        show h_r h' (h_r h' (h_r h' p 0) 4) 1 = _
        rw [p0, n4]
        exact w1
      | 2, _ =>
        show h_r h' (h_r h' (h_r h' p 0) 4) 2 = _
        rw [p0, n4]
        exact w2
      | 3, _ =>
        show h_r h' (h_r h' (h_r h' p 0) 4) 3 = _
        rw [p0, n4]
        exact w3
      | 4, _ =>
        show h_r h' (h_r h' (h_r h' p 0) 4) 4 = _
        rw [p0, n4]
        exact w4
      | 5, _ =>
        show h_r h' (h_r h' (h_r h' p 0) 4) 5 = _
        rw [p0, n4]
        exact w5
      | 6, _ =>
        show h_r h' (h_r h' (h_r h' p 0) 4) 6 = _
        rw [p0, n4]
        exact w6
      | 7, _ =>
        exact p7
      | 8, _ =>
        exact p8
      | 9, _ =>
        show h_r h' (h_r h' p 0) 2 = _
        rw [p0]
        exact n2
      | 10, _ =>
        show h_r h' (h_r h' p 0) 3 = _
        rw [p0]
        exact n3
      | 11, _ =>
        exact absurd rfl h11
      | 12, _ =>
        exact p3
      | 13, _ =>
        exact p4
      | 14, _ =>
        exact p5
      | 15, _ =>
        exact p6
      | 16, _ =>
        show h_r h' (h_r h' p 1) 0 = _
        rw [p1]
        exact i0
      | 17, _ =>
        show h_r h' (h_r h' p 1) 1 = _
        rw [p1]
        exact i1
      | q + 18, z => exact absurd z (by omega)
    · have e : ∀ g : MH, pa_w g p i = h_r g (h_r g p 2) (i - 18) := fun g => by
        unfold pa_w
        rw [if_neg (by omega), if_neg (by omega), if_neg (by omega), if_neg (by omega), if_neg (by omega), if_neg (by omega), if_neg (by omega), if_neg h18]
      rw [e, e, p2]
      exact eR _
  have rcl := (th_rf ht (R := 39) (by decide) rfl r0 (k := 0) rfl (fun z => by cases z)).2
  have rhl := (th_rf ht (R := 39) (by decide) rfl r0 (k := 1) rfl (fun z => by cases z)).2
  have lh := lt (by rw [rhl]; decide : ρ (h_r h (h_r h p 0) 1) ≠ 0)
  refine ⟨⟨⟨p0, p1, n4, i2⟩, W_⟩, ⟨(fq_f f hn (List.mem_of_getElem? (i := 14) rfl) (by decide) hp lp).1, (fq_f f hn (List.mem_of_getElem? (i := 47) rfl) (by decide) hp lp).1⟩, fun i h1 h2 j => ?_, fun j => ?_, (fq_f f hn (List.mem_of_getElem? (i := 44) rfl) (by decide) r0 l0).2, ⟨(fq_f f hn (List.mem_of_getElem? (i := 45) rfl) (by decide) r0 l0).1, (fq_f f hn (List.mem_of_getElem? (i := 46) rfl) (by decide) r0 l0).1⟩, fun j => (fq_e j f hn (List.mem_of_getElem? (i := 48) rfl) (List.mem_of_getElem? (i := 49) rfl) rcl (lt (by rw [rcl]; decide))).1, (fq_f f hn (List.mem_of_getElem? (i := 52) rfl) (by decide) r0 l0).2, fun j => ?_⟩
  · have ri := rw_ i (by omega)
    match i, h1, h2 with
    | 12, _, _ => exact (fq_e j f hn (List.mem_of_getElem? (i := 30) rfl) (List.mem_of_getElem? (i := 31) rfl) ri (lt (by rw [ri]; decide))).1
    | 13, _, _ => exact (fq_e j f hn (List.mem_of_getElem? (i := 32) rfl) (List.mem_of_getElem? (i := 33) rfl) ri (lt (by rw [ri]; decide))).1
    | 14, _, _ => exact (fq_e j f hn (List.mem_of_getElem? (i := 34) rfl) (List.mem_of_getElem? (i := 35) rfl) ri (lt (by rw [ri]; decide))).1
    | 15, _, _ => exact (fq_e j f hn (List.mem_of_getElem? (i := 36) rfl) (List.mem_of_getElem? (i := 37) rfl) ri (lt (by rw [ri]; decide))).1
    | 16, _, _ => exact (fq_e j f hn (List.mem_of_getElem? (i := 38) rfl) (List.mem_of_getElem? (i := 39) rfl) ri (lt (by rw [ri]; decide))).1
    | 17, _, _ => exact (fq_e j f hn (List.mem_of_getElem? (i := 40) rfl) (List.mem_of_getElem? (i := 41) rfl) ri (lt (by rw [ri]; decide))).1
    | q + 18, z, _ =>
      have r6 : ρ (pa_w h p (q + 18)) = 35 := ri.trans (if_neg (by omega))
      exact (fq_e j f hn (List.mem_of_getElem? (i := 50) rfl) (List.mem_of_getElem? (i := 51) rfl) r6 (lt (by rw [r6]; decide))).1
  · have hw : ¬ t_W W (ρ (h_r h (h_r h p 1) 2)) j := by
      rw [rf]
      by_cases hk : j = 1002
      · intro z
        rcases z with z | z
        · rw [hk] at z
          exact d_noN hn (List.mem_of_getElem? (i := 43) rfl) z
        · exact d_noW hn (List.mem_of_getElem? (i := 42) rfl) (by decide) (Or.inr z)
      · rcases d_noE (k := j) hn (List.mem_of_getElem? (i := 42) rfl) with z | z
        · exact z
        · exact absurd z hk
    exact ((f.2.2.2 _ lf).2 j hw).2.1
  · have hw : ¬ t_W W (ρ (h_r h (h_r h p 0) 1)) j := by
      rw [rhl]
      by_cases hk : j = 1002
      · intro z
        rcases z with z | z
        · rw [hk] at z
          exact d_noN hn (List.mem_of_getElem? (i := 54) rfl) z
        · exact d_noW hn (List.mem_of_getElem? (i := 53) rfl) (by decide) (Or.inr z)
      · rcases d_noE (k := j) hn (List.mem_of_getElem? (i := 53) rfl) with z | z
        · exact z
        · exact absurd z hk
    exact ((f.2.2.2 _ lh).2 j hw).2.1
theorem sl_fr2 {ρ ρ' : Nat → Nat} {W : List (Nat × Nat)} {h h' : MH} (ht : TH c_sp ρ h) (f : FQ ρ ρ' W h h') (hn : d_no pl_D W = true) (h16 : ρ 16 = 6) (k : Nat) : r_sl h' k = r_sl h k := by
  have l16 := (ht.2 16 (by rw [h16]; decide)).1
  have eP : r_P h' = r_P h := (fq_f f hn (List.mem_of_getElem? (i := 1) rfl) (by decide) h16 l16).2
  have fP : ρ (r_P h) = 9 := (th_rf ht (R := 6) (by decide) rfl h16 (k := 2) rfl (fun z => by cases z)).2
  unfold r_sl
  rw [eP]
  exact (fq_e k f hn (List.mem_of_getElem? (i := 3) rfl) (List.mem_of_getElem? (i := 4) rfl) fP (ht.2 _ (by rw [fP]; decide)).1).2
def sk (h h' : MH) (s : Nat) : Prop := r_sl h s ≠ 0 → r_sl h' s = r_sl h s ∧ ∀ Y, bk_0 h (r_sl h s) Y → bk_0 h' (r_sl h s) Y
theorem sk_T {h h1 h2 : MH} {s : Nat} (a : sk h h1 s) (b : sk h1 h2 s) : sk h h2 s := fun s0 => by
  obtain ⟨a1, a2⟩ := a s0
  obtain ⟨b1, b2⟩ := b (by rw [a1]; exact s0)
  rw [a1] at b1 b2
  exact ⟨b1, fun Y y => b2 Y (a2 Y y)⟩
theorem sk_fr {ρ ρ' : Nat → Nat} {W : List (Nat × Nat)} {h h' : MH} (ht : TH c_sp ρ h) (f : FQ ρ ρ' W h h') (hn : d_no pl_D W = true) (h16 : ρ 16 = 6) : (pl_t h → pl_t h') ∧ (∀ s, r_sl h' s = r_sl h s) ∧ ∀ s, s < 4 → sk h h' s := by
  have es := sl_fr2 ht f hn h16
  refine ⟨fun k1 i hi h0 => ?_, es, fun s hs h0 => ?_⟩
  · rw [es] at h0
    rw [es]
    obtain ⟨y1, y2⟩ := k1 i hi h0
    have si := pl_fr2 ht f hn (sl_ob ht h16 hi h0)
    refine ⟨pl_sameO si.1 y1, fun j hj hn2 h1 => ?_⟩
    rw [es] at h1
    rw [es]
    have sj := pl_fr2 ht f hn (sl_ob ht h16 hj h1)
    exact pl_sameX2 si.1 sj.1 si.2 sj.2 (y2 j hj hn2 h1)
  · have sr := pl_fr2 ht f hn (sl_ob ht h16 hs h0)
    exact ⟨es s, fun Y b => bk_sameB sr.1 sr.2 b⟩
theorem ar_Y {h : MH} {c : Nat} {Z : RLS} (a : ar_q h c Z) : ac_Y h c = (ry_run (fun j => ls_t Z (j + 1)) (ls_g Z)).1 := by
  obtain ⟨a1, a2⟩ := a
  have eN : ac_N h c = ls_g Z := by
    unfold ac_N
    omega
  unfold ac_Y
  rw [eN, ry_runC (ls_g Z) (ac_TI (U := fun j => ls_t Z (j + 1)) (fun q hq => ⟨(a2 q hq).1, fun i hi => by
    have := (a2 q hq).2 i hi
    rw [show 4 * q + 2 + i = 4 * q + 1 + i + 1 by omega] at this
    exact this⟩))]
theorem ac_ofT {h : MH} {c : Nat} (b : 0 ≤ q_fd h c 2) : ac_of (z_i h) c (h_r h c 0) (h_r h c 1) (ac_T h c) (ac_N h c) := by
  refine ⟨?_, fun k _ => ?_⟩
  · unfold ac_N
    show q_fd h c 2 = _
    omega
  · obtain ⟨e1, e2⟩ := ac_TE (h := h) (c := c) (k := k)
    exact ⟨e1.symm, fun i hi => (e2 i hi).symm⟩
theorem ac_okTN {ρ : Nat → Nat} {h : MH} {p c : Nat} (ht : TH c_sp ρ h) (hp : ρ p = 29) (hc : ρ c = 12) : ac_ok h p c ∧ 0 ≤ q_fd h c 2 ∧ q_fd h c 2 ≤ 40 := by
  have rk := (th_rf ht (R := 12) (by decide) rfl hc (k := 0) rfl (fun z => by cases z)).2
  have rn := (th_rf ht (R := 12) (by decide) rfl hc (k := 1) rfl (fun z => by cases z)).2
  have lt : ∀ {x : Nat}, ρ x ≠ 0 → x < 16 + h_n h := fun {x} hx => (ht.2 x hx).1
  have cc := t_spec ht (by decide) (rfl : c_sp[12]? = some _) hc
  have ck := t_spec ht (by decide) (rfl : c_sp[14]? = some _) rk
  have cn := t_spec ht (by decide) (rfl : c_sp[15]? = some _) rn
  have c2 := cc.2.2.2 2 (.inl (0, 40)) rfl (fun z => by cases z)
  have k40 : 40 ≤ (h_k h (h_r h c 0)).2 := ck.2.1.1
  have n120 : 120 ≤ (h_k h (h_r h c 1)).2 := cn.2.1.1
  have w := past_row ht hp
  refine ⟨⟨⟨cc.1, cc.2.2.1 rfl, lt (by rw [hc]; decide)⟩, ⟨ck.1, lt (by rw [rk]; decide), by omega⟩, ⟨cn.1, lt (by rw [rn]; decide), by omega⟩, fun i hi => ?_⟩, c2.1, c2.2⟩
  obtain ⟨q1, q2, q3, q4⟩ := (pa_Rn i hi).2.2.2.2.2.2.2.2.2.1
  exact ⟨ne_r rk (w i hi) (Ne.symm q1), ne_r rn (w i hi) (Ne.symm q2)⟩
theorem ac_okTT {ρ : Nat → Nat} {h : MH} {p c : Nat} (ht : TH c_sp ρ h) (hp : ρ p = 29) (hc : ρ c = 103) : ac_ok h p c ∧ 0 ≤ q_fd h c 2 ∧ q_fd h c 2 ≤ 40 := by
  have rk := (th_rf ht (R := 103) (by decide) rfl hc (k := 0) rfl (fun z => by cases z)).2
  have rn := (th_rf ht (R := 103) (by decide) rfl hc (k := 1) rfl (fun z => by cases z)).2
  have lt : ∀ {x : Nat}, ρ x ≠ 0 → x < 16 + h_n h := fun {x} hx => (ht.2 x hx).1
  have cc := t_spec ht (by decide) (rfl : c_sp[103]? = some _) hc
  have ck := t_spec ht (by decide) (rfl : c_sp[104]? = some _) rk
  have cn := t_spec ht (by decide) (rfl : c_sp[105]? = some _) rn
  have c2 := cc.2.2.2 2 (.inl (0, 40)) rfl (fun z => by cases z)
  have k40 : 40 ≤ (h_k h (h_r h c 0)).2 := ck.2.1.1
  have n120 : 120 ≤ (h_k h (h_r h c 1)).2 := cn.2.1.1
  have w := past_row ht hp
  refine ⟨⟨⟨cc.1, cc.2.2.1 rfl, lt (by rw [hc]; decide)⟩, ⟨ck.1, lt (by rw [rk]; decide), by omega⟩, ⟨cn.1, lt (by rw [rn]; decide), by omega⟩, fun i hi => ?_⟩, c2.1, c2.2⟩
  obtain ⟨q1, q2, q3, q4⟩ := (pa_Rn i hi).2.2.2.2.2.2.2.2.2.1
  exact ⟨ne_r rk (w i hi) (Ne.symm q3), ne_r rn (w i hi) (Ne.symm q4)⟩
-- the token behind a change of what is told
theorem im_15 {ρ ρ2 : Nat → Nat} {W : List (Nat × Nat)} {h h2 : MH} (ht : TH c_sp ρ h) (n15 : c_PT 15 ρ h) (f : FQ ρ ρ2 W h h2) (hn : d_no pl_D W = true) (N2 : h_r h2 16 0 = h_r h 16 0) (pcN : pc_eq h (h_r h 16 0) h2 (h_r h 16 0)) (im : ∀ k, k < 3 → r_im h2 k ≠ 0 → ∃ a, td_bd h a ∧ av_t h a ∧ pc_eq h a h2 (r_im h2 k)) : c_PT 15 ρ2 h2 := by
  obtain ⟨h16, k1, k2, k3, k4⟩ := n15
  obtain ⟨s1, s2, s3⟩ := sk_fr ht f hn h16
  have bd := td_bdN ht (nw_ob ht h16)
  refine ⟨(f.2.1 16 (by rw [h16]; decide)).trans h16, s1 k1, fun r hr => ?_, by rw [N2]; exact av_pc pcN bd k3, fun k hk h0 => ?_⟩
  · rw [N2, pcN.1 5 (by decide) (by decide)] at hr
    have r4 : r < 4 := by
      have := bd.2.1
      omega
    obtain ⟨y1, y2⟩ := k2 r hr
    obtain ⟨z1, z2⟩ := s3 r r4 y1
    obtain ⟨e1, e2, e3⟩ := pcN.2.2 r r4
    rw [z1, N2, (ac_eqY e1 (bd.2.2 r r4) e2 e3).1]
    exact ⟨y1, z2 _ y2⟩
  · obtain ⟨a, b, v, p⟩ := im k hk h0
    exact av_pc p b v
end
