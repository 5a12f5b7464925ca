section
-- THE START: both constructors run with ranges, then the heap told by regions
noncomputable def c_up (s : AI) : Nat → Nat → AL → List AV → AH → Option (AL × (List AV × AH))
  | 0, _, _, _, _ => none
  | n + 1, pc, lv, st, A => if pc = 16 then some (lv, (st, A)) else (match c_st s 0 pc lv st A with
    | some (.inl (pc', lv', st', A')) => c_up s n pc' lv' st' A'
    | some (.inr (.inr (j, as, r, pc'))) => if b_ct as ≤ m_lc j then (match c_rn s 4000 j 0 (b_args 0 as) [] A with
      | some (v, A') => c_up s n pc' lv (v.toList ++ r) A'
      | none => none) else none
    | _ => none)
theorem c_upS (s : AI) : ∀ (n pc : Nat) (lv : AL) (st : List AV) (A : AH) (lv2 : AL) (st2 : List AV) (A2 : AH), c_up s n pc lv st A = some (lv2, (st2, A2)) → ∀ (lv' : List (Nat × Value)) (st' : List Value) (h : MH), g_l s lv lv' → g_s s st st' → g_h s A h → ∃ lv1 st1 h1, (∀ r, Rq 0 16 lv1 st1 h1 r → Rq 0 pc lv' st' h r) ∧ g_l s lv2 lv1 ∧ g_s s st2 st1 ∧ g_h s A2 h1 ∧ mlow h h1
  | 0, _, _, _, _, _, _, _, e => by cases e
  | n + 1, pc, lv, st, A, lv2, st2, A2, e => fun lv' st' h hl hs hh => by
    rw [c_up] at e
    by_cases hp : pc = 16
    · rw [if_pos hp] at e
      cases e
      subst hp
      exact ⟨lv', st', h, fun r g => g, hl, hs, hh, mlow.refl⟩
    · rw [if_neg hp] at e
      have P := p_st 0 pc hl hs hh
      cases hR : c_st s 0 pc lv st A with
      | none => rw [hR] at e; cases e
      | some R =>
        obtain ⟨R', e2, g⟩ := P R hR
        rw [hR] at e
        match R, R', g with
        | .inl (pc1, lv1, st1, A1), .inl (pc1', lv1', st1', h1), g =>
          obtain ⟨g1, g2, g3, g4⟩ := g
          obtain ⟨lv3, st3, h3, k1, k2, k3, k4, k5⟩ := c_upS s n pc1 lv1 st1 A1 lv2 st2 A2 e lv1' st1' h1 g2 g3 g4
          rw [g1] at e2
          have hlow : mlow h h1 := by
            rcases m_stw e2 with ⟨S, q1, q2⟩ | ⟨v9, ins, q1, -⟩ | ⟨cl, kd, idx, ins, q1, -⟩
            · cases q1
              exact q2
            · cases q1
            · cases q1
          exact ⟨lv3, st3, h3, fun r g => Rq.step e2 (k1 r g), k2, k3, k4, mlow.trans hlow k5⟩
        | .inr (.inr (j, as, r, pc1)), .inr (.inr (j', as', r', pc1')), g =>
          obtain ⟨g1, g2, g3, g4⟩ := g
          dsimp only at e
          by_cases hc : b_ct as ≤ m_lc j
          · rw [if_pos hc] at e
            cases hc1 : c_rn s 4000 j 0 (b_args 0 as) [] A with
            | none => rw [hc1] at e; cases e
            | some q =>
              obtain ⟨v1, A1⟩ := q
              rw [hc1] at e
              obtain ⟨v1', h1, q1, q2, q3⟩ := c_sim s 4000 j 0 _ [] A v1 A1 hc1 (lv_args 0 as') [] h (g_args 0 g2) trivial hh
              obtain ⟨lv3, st3, h3, k1, k2, k3, k4, k5⟩ := c_upS s n pc1 lv _ A1 lv2 st2 A2 e lv' (v1'.toList ++ r') h1 hl (g_app (by
                cases v1 with
                | none => cases v1' with
                  | none => trivial
                  | some x => exact q2.elim
                | some x => cases v1' with
                  | none => exact q2.elim
                  | some y => exact ⟨q2, trivial⟩) g3) q3
              rw [g1, g4] at e2
              refine ⟨lv3, st3, h3, fun rr g => Rq.call e2 (by rw [g_ct g2]; exact hc) ⟨4000, q1⟩ (k1 rr g), k2, k3, k4, mlow.trans (mlow_rn 4000 _ _ _ _ _ _ _ q1) k5⟩
          · rw [if_neg hc] at e
            cases e
        | .inr (.inl _), _, g => cases e
        | .inl _, .inr (.inl _), g => exact g.elim
        | .inl _, .inr (.inr _), g => exact g.elim
        | .inr (.inr _), .inl _, g => exact g.elim
        | .inr (.inr _), .inr (.inl _), g => exact g.elim
-- which address is of which region
def c_rt : List (Nat × Nat) := [(1, 1), (2, 2), (3, 2), (4, 2), (5, 2), (6, 2), (7, 2), (8, 3), (9, 3), (10, 3), (11, 3), (12, 3), (13, 3), (14, 5), (15, 4), (16, 6), (17, 7), (18, 13), (19, 10), (20, 12), (21, 14), (22, 15), (23, 12), (24, 14), (25, 15), (26, 12), (27, 14), (28, 15), (29, 12), (30, 14), (31, 15), (32, 8), (33, 9), (34, 11), (36, 103), (37, 104), (38, 105), (39, 16), (40, 17), (41, 18), (42, 21), (43, 19), (44, 23), (45, 20), (46, 22), (47, 24), (48, 16), (49, 17), (50, 18), (51, 21), (52, 19), (53, 23), (54, 20), (55, 22), (56, 24), (57, 25), (58, 26), (59, 27), (60, 28), (61, 49), (62, 50), (63, 51), (64, 52), (65, 53), (66, 54), (67, 55), (68, 56), (69, 57), (70, 58), (71, 59), (72, 60), (73, 61), (74, 62), (75, 63), (76, 64), (77, 65), (78, 66), (79, 67), (80, 68), (81, 69), (82, 70), (83, 71), (84, 72), (85, 73), (86, 74), (87, 75), (88, 76), (89, 77), (90, 78), (91, 79), (92, 80), (93, 81), (94, 82), (95, 83), (96, 84), (97, 85), (98, 86), (99, 87), (100, 88), (101, 89), (102, 90), (103, 91), (104, 92), (105, 93), (106, 94), (107, 95), (108, 96)]
def c_r0 (a : Nat) : Nat := match m_lk c_rt a with
  | some R => R
  | none => 0
def hs_in (p r : Int × Int) : Bool := decide (p.1 ≤ r.1) && decide (r.2 ≤ p.2)
def hs_rf (q : Nat × Bool) (a : Nat) : Bool := (Nat.beq a 0 && !q.2) || (!(Nat.beq a 0) && (!(Nat.beq q.1 0) && Nat.beq (c_r0 a) q.1))
def hs_fs (c : AC) : Nat → List FT → Bool
  | _, [] => true
  | k, .inl p :: r => hs_in p (b_rw c.2.1 k) && hs_fs c (k + 1) r
  | k, .inr (.inl _) :: r => hs_fs c (k + 1) r
  | k, .inr (.inr q) :: r => hs_rf q (b_gr c k) && hs_fs c (k + 1) r
def hs_ar (c : AC) (t : Option FT) : Bool := match t with
  | none => true
  | some (.inl p) => hs_in p (b_all c.2.1)
  | some (.inr (.inl _)) => true
  | some (.inr (.inr q)) => (List.range c.1.2).all (fun k => hs_rf q (b_gr c k))
def hs_c (A : AH) (q : Nat × Nat) : Bool := Nat.beq q.1 14 || (Nat.beq q.1 15 || (match b_cell A q.1, c_sp[q.2]? with
  | some c, some rs => (Nat.beq c.1.1 rs.1.1 && (Nat.ble rs.1.2.1 c.1.2 && Nat.ble c.1.2 rs.1.2.2)) && (((!rs.2.1 || Nat.ble 16 q.1) && Nat.blt q.1 (16 + A.1.1)) && (match rs.2.2.1 with
    | true => hs_ar c rs.2.2.2[0]?
    | false => hs_fs c 0 rs.2.2.2))
  | _, _ => false))
theorem hs_rfS {q : Nat × Bool} {a : Nat} (k : hs_rf q a = true) : t_rf c_r0 q.1 q.2 a := by
  unfold hs_rf at k
  rw [Bool.or_eq_true, Bool.and_eq_true, Bool.and_eq_true, Bool.and_eq_true] at k
  rcases k with ⟨k1, k2⟩ | ⟨k1, k2, k3⟩
  · exact Or.inl ⟨Nat.eq_of_beq_eq_true k1, by simpa using k2⟩
  · refine Or.inr ⟨fun e => ?_, fun e => ?_, Nat.eq_of_beq_eq_true k3⟩
    · rw [e] at k1
      cases k1
    · rw [e] at k2
      cases k2
theorem hs_fsS {c : AC} {h : MH} {a : Nat} (g : g_c c h a) : ∀ (l : List FT) (k0 : Nat), hs_fs c k0 l = true → ∀ (k : Nat) (ft : FT), l[k]? = some ft → t_ft c_r0 ft h a (k0 + k)
  | [], _, _, k, ft, hk => by
    rw [List.getElem?_nil] at hk
    cases hk
  | t :: r, k0, e, 0, ft, hk => by
    cases hk
    cases t with
    | inl p =>
      rw [hs_fs, Bool.and_eq_true] at e
      have e1 := e.1
      unfold hs_in at e1
      rw [Bool.and_eq_true] at e1
      have h1 := of_decide_eq_true e1.1
      have h2 := of_decide_eq_true e1.2
      have h3 : (b_rw c.2.1 k0).1 ≤ (h_i h a k0).toInt ∧ (h_i h a k0).toInt ≤ (b_rw c.2.1 k0).2 := g.2.1 k0
      show p.1 ≤ (h_i h a k0).toInt ∧ (h_i h a k0).toInt ≤ p.2
      omega
    | inr t => cases t with
      | inl u => trivial
      | inr q =>
        rw [hs_fs, Bool.and_eq_true] at e
        show t_rf c_r0 q.1 q.2 (h_r h a k0)
        rw [g.2.2.2 k0]
        exact hs_rfS e.1
  | t :: r, k0, e, k + 1, ft, hk => by
    have e2 : hs_fs c (k0 + 1) r = true := by
      cases t with
      | inl p =>
        rw [hs_fs, Bool.and_eq_true] at e
        exact e.2
      | inr t => cases t with
        | inl u => exact e
        | inr q =>
          rw [hs_fs, Bool.and_eq_true] at e
          exact e.2
    have := hs_fsS g r (k0 + 1) e2 k ft (by simpa using hk)
    rw [show k0 + (k + 1) = k0 + 1 + k by omega]
    exact this
theorem hs_cS {A : AH} {h : MH} {q : Nat × Nat} {s : AI} (hh : g_h s A h) (e : hs_c A q = true) (h4 : q.1 ≠ 14) (h5 : q.1 ≠ 15) : q.1 < 16 + h_n h ∧ ∃ rs, c_sp[q.2]? = some rs ∧ t_cell c_r0 rs h q.1 := by
  unfold hs_c at e
  rw [Bool.or_eq_true, Bool.or_eq_true] at e
  rcases e with e | e | e
  · exact absurd (Nat.eq_of_beq_eq_true e) h4
  · exact absurd (Nat.eq_of_beq_eq_true e) h5
  · split at e
    · next c rs hc hs =>
      rw [Bool.and_eq_true, Bool.and_eq_true, Bool.and_eq_true, Bool.and_eq_true, Bool.and_eq_true, Bool.or_eq_true] at e
      obtain ⟨⟨k1, k2, k3⟩, ⟨k4, k5⟩, k6⟩ := e
      have g := hh.2.2.1 q.1 c hc
      have k1 := Nat.eq_of_beq_eq_true k1
      refine ⟨by rw [hh.1]; exact xg_lt k5, rs, hs, by rw [g.1]; exact k1, by rw [g.1]; exact ⟨Nat.le_of_ble_eq_true k2, Nat.le_of_ble_eq_true k3⟩, fun z => ?_, fun k ft hk hl => ?_⟩
      · rcases k4 with k4 | k4
        · rw [z] at k4
          cases k4
        · exact Nat.le_of_ble_eq_true k4
      · unfold r_ft at hk
        cases hb : rs.2.2.1 with
        | false =>
          rw [hb] at k6 hk
          have := hs_fsS g _ 0 k6 k ft hk
          rw [Nat.zero_add] at this
          exact this
        | true =>
          rw [hb] at k6 hk
          have k6 : hs_ar c rs.2.2.2[0]? = true := k6
          have hk : rs.2.2.2[0]? = some ft := hk
          rw [hk] at k6
          cases ft with
          | inl p =>
            have k6 : hs_in p (b_all c.2.1) = true := k6
            unfold hs_in at k6
            rw [Bool.and_eq_true] at k6
            have h1 := of_decide_eq_true k6.1
            have h2 := of_decide_eq_true k6.2
            have h3 := g_all c.2.1 k (z := (h_i h q.1 k).toInt) (g.2.1 k)
            show p.1 ≤ (h_i h q.1 k).toInt ∧ (h_i h q.1 k).toInt ≤ p.2
            omega
          | inr t => cases t with
            | inl u => trivial
            | inr t =>
              have k6 : (List.range c.1.2).all (fun k => hs_rf t (b_gr c k)) = true := k6
              have hl := hl hb
              rw [g.1] at hl
              show t_rf c_r0 t.1 t.2 (h_r h q.1 k)
              rw [g.2.2.2 k]
              exact hs_rfS (List.all_eq_true.mp k6 k (List.mem_range.mpr hl))
    · cases e
def hs_rw (A : AH) (a : Nat) : Bool := match b_cell A a with
  | some c => decide (c.2.1 = ((0, 0), []))
  | none => false
def hs_nl (A : AH) (a k : Nat) : Bool := match b_cell A a with
  | some c => Nat.beq (b_gr c k) 0
  | none => false
def hs_lk (A : AH) (a k b : Nat) : Bool := match b_cell A a with
  | some c => Nat.beq (b_gr c k) b
  | none => false
def hs_i0 (A : AH) (a k : Nat) : Bool := match b_cell A a with
  | some c => decide (b_rw c.2.1 k = ((0 : Int), (0 : Int)))
  | none => false
def hs_iv (A : AH) (a k : Nat) (z : Int) : Bool := match b_cell A a with
  | some c => decide (b_rw c.2.1 k = (z, z))
  | none => false
-- what is told at the start
def hs_L : List (Nat × (Nat × Nat)) := [(16, (0, 17)), (17, (0, 18)), (17, (1, 19)), (19, (0, 20)), (19, (1, 23)), (19, (2, 26)), (19, (3, 29)), (20, (0, 21)), (20, (1, 22)), (23, (0, 24)), (23, (1, 25)), (26, (0, 27)), (26, (1, 28)), (29, (0, 30)), (29, (1, 31)), (61, (2, 63)), (61, (3, 64)), (61, (4, 65)), (61, (5, 66)), (2, (0, 8)), (3, (0, 9)), (4, (0, 10)), (5, (0, 11)), (6, (0, 12)), (7, (0, 13))]
def hs_V : List (Nat × (Nat × Int)) := [(63, (0, 0)), (17, (2, 0)), (17, (3, 0)), (17, (4, (-1))), (17, (5, 0)), (64, (0, 0)), (65, (0, (-1))), (66, (0, 0)), (2, (1, 0)), (3, (1, 0)), (4, (1, 0)), (5, (1, 0)), (6, (1, 0)), (7, (1, 0)), (8, (0, 110)), (8, (1, 101)), (8, (2, 119)), (9, (0, 112)), (9, (1, 117)), (9, (2, 116)), (10, (0, 109)), (10, (1, 101)), (10, (2, 108)), (10, (3, 100)), (11, (0, 108)), (11, (1, 101)), (11, (2, 115)), (11, (3, 115)), (12, (0, 108)), (12, (1, 111)), (12, (2, 119)), (12, (3, 101)), (12, (4, 114)), (13, (0, 99)), (13, (1, 117)), (13, (2, 116)), (1, (0, (-1))), (1, (1, (-1))), (1, (2, (-1))), (1, (3, 40)), (1, (4, 99)), (1, (5, (-1))), (1, (6, 40)), (1, (7, 40)), (1, (8, (-1))), (1, (9, 40)), (1, (10, (-1))), (1, (11, (-1))), (1, (12, 40)), (1, (13, 39)), (1, (14, 99)), (1, (15, 40)), (1, (16, 99)), (1, (17, (-1)))]
def hs_kd (A : AH) (a : Nat) (q : Nat × Nat) : Bool := match b_cell A a with
  | some c => decide (c.1 = q)
  | none => false
def hs_K : List (Nat × (Nat × Nat)) := [(1, (20, 18)), (8, (21, 3)), (9, (21, 3)), (10, (21, 4)), (11, (21, 4)), (12, (21, 5)), (13, (21, 3))]
def hs_m (A : AH) : Bool := hs_L.all (fun q => hs_lk A q.1 q.2.1 q.2.2) && (hs_V.all (fun q => hs_iv A q.1 q.2.1 q.2.2) && hs_K.all (fun q => hs_kd A q.1 q.2))
def b_h1 : AH := ((0, 0), [(1, b_c0 20 18 m_lim), (2, b_cs 8), (3, b_cs 9), (4, b_cs 10), (5, b_cs 11), (6, b_cs 12), (7, b_cs 13),
  (8, b_c0 21 3 [110, 101, 119]), (9, b_c0 21 3 [112, 117, 116]), (10, b_c0 21 4 [109, 101, 108, 100]), (11, b_c0 21 4 [108, 101, 115, 115]), (12, b_c0 21 5 [108, 111, 119, 101, 114]), (13, b_c0 21 3 [99, 117, 116])])
-- all that is asked of the heap behind the constructors
noncomputable def hs_all : Bool := match c_up b_t 4000 0 [(0, b_r 14)] [] b_h1 with
  | some (lv, (st, A)) => (decide (lv = [(2, b_r 61), (1, b_r 16), (0, b_r 14)]) && decide (st = [])) && ((c_rt.all (hs_c A) && decide (A.1 = (93, 178321))) && ((hs_rw A 67 && (hs_nl A 33 0 && (hs_nl A 33 1 && (hs_nl A 33 2 && hs_nl A 33 3)))) && (((hs_nl A 32 0 && (hs_nl A 32 1 && hs_nl A 32 2)) && (hs_lk A 16 2 33 && (hs_lk A 16 1 32 && (hs_lk A 16 7 57 && hs_lk A 57 0 58)))) && (hs_lk A 61 6 67 && (hs_lk A 61 67 108 && (hs_rw A 108 && (hs_lk A 61 2 63 && (hs_rw A 63 && (hs_lk A 16 0 17 && (hs_i0 A 17 2 && hs_m A))))))))))
  | none => false
theorem hs_run : hs_all = true := by decide +kernel
theorem g_h1 (L : Nat) (xs : Nat → Int32) : g_h b_t b_h1 (m_h0 L xs) := by
  have h0 := g_h0 b_t L xs [] (fun j hj => absurd hj (Nat.not_lt_zero j)) (g_iT _)
  refine ⟨h0.1, h0.2.1, fun a c hc => h0.2.2.1 a c ?_, h0.2.2.2.1, h0.2.2.2.2⟩
  have hm := m_lkm (show m_lk b_h1.2 a = some c from hc)
  unfold b_h1 at hm
  simp only [List.mem_cons, Prod.mk.injEq, List.not_mem_nil, or_false] at hm
  rcases hm with ⟨rfl, rfl⟩ | ⟨rfl, rfl⟩ | ⟨rfl, rfl⟩ | ⟨rfl, rfl⟩ | ⟨rfl, rfl⟩ | ⟨rfl, rfl⟩ | ⟨rfl, rfl⟩ | ⟨rfl, rfl⟩ | ⟨rfl, rfl⟩ | ⟨rfl, rfl⟩ | ⟨rfl, rfl⟩ | ⟨rfl, rfl⟩ | ⟨rfl, rfl⟩ <;> rfl
theorem hs_nlS {A : AH} {h : MH} {s : AI} {a k : Nat} (hh : g_h s A h) (e : hs_nl A a k = true) : h_r h a k = 0 := by
  unfold hs_nl at e
  split at e
  · next c hc =>
    rw [(hh.2.2.1 a c hc).2.2.2 k]
    exact Nat.eq_of_beq_eq_true e
  · cases e
theorem hs_lkS {A : AH} {h : MH} {s : AI} {a k b : Nat} (hh : g_h s A h) (e : hs_lk A a k b = true) : h_r h a k = b := by
  unfold hs_lk at e
  split at e
  · next c hc =>
    rw [(hh.2.2.1 a c hc).2.2.2 k]
    exact Nat.eq_of_beq_eq_true e
  · cases e
theorem hs_rwS {A : AH} {h : MH} {s : AI} {a : Nat} (hh : g_h s A h) (e : hs_rw A a = true) (j : Nat) : (h_i h a j).toInt = 0 := by
  unfold hs_rw at e
  split at e
  · next c hc =>
    have := (hh.2.2.1 a c hc).2.1 j
    rw [of_decide_eq_true e] at this
    have h1 : (0 : Int) ≤ (h_i h a j).toInt := this.1
    have h2 : (h_i h a j).toInt ≤ (0 : Int) := this.2
    omega
  · cases e
theorem hs_i0S {A : AH} {h : MH} {s : AI} {a k : Nat} (hh : g_h s A h) (e : hs_i0 A a k = true) : (h_i h a k).toInt = 0 := by
  unfold hs_i0 at e
  split at e
  · next c hc =>
    have h3 : (b_rw c.2.1 k).1 ≤ (h_i h a k).toInt ∧ (h_i h a k).toInt ≤ (b_rw c.2.1 k).2 := (hh.2.2.1 a c hc).2.1 k
    rw [of_decide_eq_true e] at h3
    have h1 : (0 : Int) ≤ (h_i h a k).toInt := h3.1
    have h2 : (h_i h a k).toInt ≤ (0 : Int) := h3.2
    omega
  · cases e
theorem hs_ivS {A : AH} {h : MH} {s : AI} {a k : Nat} {z : Int} (hh : g_h s A h) (e : hs_iv A a k z = true) : (h_i h a k).toInt = z := by
  unfold hs_iv at e
  split at e
  · next c hc =>
    have h3 : (b_rw c.2.1 k).1 ≤ (h_i h a k).toInt ∧ (h_i h a k).toInt ≤ (b_rw c.2.1 k).2 := (hh.2.2.1 a c hc).2.1 k
    rw [of_decide_eq_true e] at h3
    have h1 : z ≤ (h_i h a k).toInt := h3.1
    have h2 : (h_i h a k).toInt ≤ z := h3.2
    omega
  · cases e
theorem hs_kdS {A : AH} {h : MH} {s : AI} {a : Nat} {q : Nat × Nat} (hh : g_h s A h) (e : hs_kd A a q = true) : h_k h a = q := by
  unfold hs_kd at e
  split at e
  · next c hc => exact (hh.2.2.1 a c hc).1.trans (of_decide_eq_true e)
  · cases e
theorem c_r0m {a : Nat} (h : c_r0 a ≠ 0) : (a, c_r0 a) ∈ c_rt := by
  unfold c_r0 at h ⊢
  split at h
  · next R hR =>
    exact m_lkm hR
  · exact absurd rfl h
-- the state in which the law goes on
theorem hs_st (L : Nat) (hL : L ≤ 448) (xs : Nat → Int32) : ∃ (lv : List (Nat × Value)) (h : MH), (∀ r, Rq 0 16 lv [] h r → Rq 0 0 [(0, .ref 14)] [] (m_h0 L xs) r) ∧ lv = [(2, .ref 61), (1, .ref 16), (0, .ref 14)] ∧ TH c_sp c_r0 h ∧ CCok c_CC c_r0 ∧ t_nd c_r0 h ∧ t_rm c_r0 h ∧ c_PT 7 c_r0 h ∧ c_PT 10 c_r0 h ∧ c_PT 11 c_r0 h ∧ c_PT 12 c_r0 h ∧ c_PT 13 c_r0 h ∧ c_PT 14 c_r0 h ∧ c_PT 15 c_r0 h := by
  have hrun := hs_run
  unfold hs_all at hrun
  split at hrun
  · next lv2 st2 A2 hup =>
    obtain ⟨lv1, st1, h1, k1, k2, k3, k4, k5⟩ := c_upS b_t _ _ _ _ _ _ _ _ hup [(0, .ref 14)] [] (m_h0 L xs) ⟨⟨rfl, rfl⟩, trivial⟩ trivial (g_h1 L xs)
    simp only [Bool.and_eq_true] at hrun
    obtain ⟨⟨c1, c2⟩, ⟨c3, c4⟩, ⟨c5, n0, n1, n2, n3⟩, ⟨⟨i0, i1, i2⟩, l1, l2, l3, l4⟩, l5, l6, l7, l8, l9, l10, l11, l12⟩ := hrun
    have c1 := of_decide_eq_true c1
    have c2 := of_decide_eq_true c2
    have c4 := of_decide_eq_true c4
    subst c1
    subst c2
    have hst : st1 = [] := by
      cases st1 with
      | nil => rfl
      | cons a r => exact k3.elim
    subst hst
    have hlv : lv1 = [(2, .ref 61), (1, .ref 16), (0, .ref 14)] := by
      match lv1, k2 with
      | [a, b, c], ⟨⟨a1, a2⟩, ⟨b1, b2⟩, ⟨d1, d2⟩, _⟩ =>
        obtain ⟨a3, a4⟩ := a
        obtain ⟨b3, b4⟩ := b
        obtain ⟨d3, d4⟩ := c
        have a1 : a3 = 2 := a1
        have b1 : b3 = 1 := b1
        have d1 : d3 = 0 := d1
        have a2 : a4 = .ref 61 := a2
        have b2 : b4 = .ref 16 := b2
        have d2 : d4 = .ref 14 := d2
        rw [a1, b1, d1, a2, b2, d2]
    have hn : h_n h1 = 93 := by rw [k4.1, c4]
    have hz : h_z h1 = 178321 := by rw [k4.2.1, c4]
    have e14 : h_k h1 14 = (20, L) := by
      rw [(k5 14 (by decide)).1]
      rfl
    have e15 : h_k h1 15 = (0, 0) := by
      rw [(k5 15 (by decide)).1]
      rfl
    have hTH : TH c_sp c_r0 h1 := by
      refine ⟨rfl, fun a ha => ?_⟩
      have hm := c_r0m ha
      by_cases h4 : a = 14
      · subst h4
        refine ⟨by rw [hn]; decide, _, (rfl : c_sp[c_r0 14]? = some _), by rw [e14], by rw [e14]; exact ⟨Nat.zero_le _, hL⟩, (fun z => by cases z), fun k ft hk _ => ?_⟩
        cases (show some (Sum.inl ((-2147483648 : Int), (2147483647 : Int))) = some ft from hk)
        exact g_iT _
      · by_cases h5 : a = 15
        · subst h5
          refine ⟨by rw [hn]; decide, _, (rfl : c_sp[c_r0 15]? = some _), by rw [e15], by rw [e15]; exact ⟨Nat.le_refl _, Nat.le_refl _⟩, (fun z => by cases z), fun k ft hk _ => ?_⟩
          have hk : ([] : List FT)[k]? = some ft := hk
          rw [List.getElem?_nil] at hk
          cases hk
        · exact hs_cS k4 (List.all_eq_true.mp c3 _ hm) h4 h5
    refine ⟨_, h1, k1, hlv, hTH, ⟨Or.inr ⟨by decide, by decide, rfl⟩, fun a h2 h8 => ?_, Or.inr ⟨by decide, by decide, rfl⟩⟩, ?_, ?_, ?_, ?_, ?_, ?_, ?_, ?_, ?_⟩
    · have : ∀ a, a < 8 → 2 ≤ a → c_r0 a = 2 := by decide
      exact Or.inr ⟨by omega, by decide, this a h8 h2⟩
    · intro a ha
      have hm : (a, c_r0 a) ∈ c_rt := c_r0m (by rcases ha with e | e <;> (rw [e]; decide))
      have hno : ∀ q ∈ c_rt, q.2 ≠ 39 ∧ q.2 ≠ 48 := by decide
      rcases ha with e | e
      · exact absurd e (hno _ hm).1
      · exact absurd e (hno _ hm).2
    · have eP : r_P h1 = 33 := hs_lkS k4 l1
      have eI : r_I h1 = 32 := hs_lkS k4 l2
      have eS : r_S h1 = 57 := hs_lkS k4 l3
      have eT : h_r h1 (r_S h1) 0 = 58 := by
        rw [eS]
        exact hs_lkS k4 l4
      have s0 : ∀ k, k < 4 → r_sl h1 k = 0 := fun k hk => by
        unfold r_sl
        rw [eP]
        match k, hk with
        | 0, _ => exact hs_nlS k4 n0
        | 1, _ => exact hs_nlS k4 n1
        | 2, _ => exact hs_nlS k4 n2
        | 3, _ => exact hs_nlS k4 n3
      refine ⟨⟨⟨by rw [hn]; decide, Or.inl rfl⟩, by rw [eP]; exact ⟨by rw [hn]; decide, Or.inl rfl⟩, by rw [eI]; exact ⟨by rw [hn]; decide, Or.inl rfl⟩, by rw [eS]; exact ⟨by rw [hn]; decide, Or.inl rfl⟩, by rw [eT, hn]; decide, fun a e => (show ∀ q ∈ c_rt, q.2 = 6 → q.1 = 16 by decide) _ (c_r0m (by rw [e]; decide)) e, fun a e => by rw [eS]; exact (show ∀ q ∈ c_rt, q.2 = 25 → q.1 = 57 by decide) _ (c_r0m (by rw [e]; decide)) e⟩, fun k hk => Or.inl (s0 k hk), fun a ha => ?_, by rw [hn]; omega, by rw [hz]; omega⟩
      have hm : (a, c_r0 a) ∈ c_rt := c_r0m (by rcases ha with e | e <;> (rw [e]; decide))
      have hno : ∀ q ∈ c_rt, q.2 ≠ 39 ∧ q.2 ≠ 48 := by decide
      rcases ha with e | e
      · exact absurd e (hno _ hm).1
      · exact absurd e (hno _ hm).2
    · have hum : ∀ q ∈ c_rt, q.2 = 49 → q.1 = 61 := by decide
      have hm1 : ∀ m, c_r0 m = 49 → m = 61 := fun m e => hum _ (c_r0m (by rw [e]; decide)) e
      refine ⟨fun m m' e e' => by rw [hm1 m e, hm1 m' e'], fun m e q hq => ?_⟩
      rw [hm1 m e]
      unfold v_rw
      rw [hs_lkS k4 l5, hs_rwS k4 c5]
      omega
    · have hum : ∀ q ∈ c_rt, q.2 = 49 → q.1 = 61 := by decide
      have hm1 : ∀ m, c_r0 m = 49 → m = 61 := fun m e => hum _ (c_r0m (by rw [e]; decide)) e
      refine ⟨rfl, fun m m' e e' => by rw [hm1 m e, hm1 m' e'], fun m e k hk => ?_⟩
      rw [hm1 m e]
      have e1 : r_im h1 k = 0 := by
        unfold r_im
        rw [show r_I h1 = 32 from hs_lkS k4 l2]
        match k, hk with
        | 0, _ => exact hs_nlS k4 i0
        | 1, _ => exact hs_nlS k4 i1
        | 2, _ => exact hs_nlS k4 i2
      have e2 : v_ke h1 61 k = 0 := by
        unfold v_ke
        rw [hs_lkS k4 l6]
        exact hs_rwS k4 l7 k
      exact ⟨fun _ => e2, fun _ => e1⟩
    · have hum : ∀ q ∈ c_rt, q.2 = 49 → q.1 = 61 := by decide
      have hm1 : ∀ m, c_r0 m = 49 → m = 61 := fun m e => hum _ (c_r0m (by rw [e]; decide)) e
      have e1 : ∀ k, k < 3 → r_im h1 k = 0 := fun k hk => by
        unfold r_im
        rw [show r_I h1 = 32 from hs_lkS k4 l2]
        match k, hk with
        | 0, _ => exact hs_nlS k4 i0
        | 1, _ => exact hs_nlS k4 i1
        | 2, _ => exact hs_nlS k4 i2
      refine ⟨rfl, fun m m' e e' => by rw [hm1 m e, hm1 m' e'], fun j k hj hk hjk h0 => absurd (e1 j hj) h0, fun m e => ?_⟩
      rw [hm1 m e]
      refine ⟨?_, fun k hk h0 => absurd (e1 k hk) h0⟩
      unfold u_now v_sz
      rw [hs_lkS k4 l8, hs_lkS k4 l10, hs_i0S k4 l11, hs_rwS k4 l9]
    · have hum : ∀ q ∈ c_rt, q.2 = 49 → q.1 = 61 := by decide
      have hm1 : ∀ m, c_r0 m = 49 → m = 61 := fun m e => hum _ (c_r0m (by rw [e]; decide)) e
      have e1 : ∀ k, k < 3 → r_im h1 k = 0 := fun k hk => by
        unfold r_im
        rw [show r_I h1 = 32 from hs_lkS k4 l2]
        match k, hk with
        | 0, _ => exact hs_nlS k4 i0
        | 1, _ => exact hs_nlS k4 i1
        | 2, _ => exact hs_nlS k4 i2
      unfold hs_m at l12
      rw [Bool.and_eq_true, Bool.and_eq_true] at l12
      have lk : ∀ a k b, (a, (k, b)) ∈ hs_L → h_r h1 a k = b := fun a k b hq => hs_lkS k4 (List.all_eq_true.mp l12.1 _ hq)
      have iv : ∀ a k z, (a, (k, z)) ∈ hs_V → (h_i h1 a k).toInt = z := fun a k z hq => hs_ivS k4 (List.all_eq_true.mp l12.2.1 _ hq)
      refine ⟨rfl, fun m m' e e' => by rw [hm1 m e, hm1 m' e'], fun m e => ?_⟩
      rw [hm1 m e, show h_r h1 16 0 = 17 from lk 16 0 17 (by decide)]
      have f2 : q_fd h1 17 2 = 0 := iv 17 2 0 (by decide)
      have f3 : q_fd h1 17 3 = 0 := iv 17 3 0 (by decide)
      have f4 : q_fd h1 17 4 = -1 := iv 17 4 (-1) (by decide)
      have f5 : q_fd h1 17 5 = 0 := iv 17 5 0 (by decide)
      refine ⟨⟨⟨?_, ?_, ?_, ?_⟩, fun j hj => by omega, fun r hr => by omega⟩, fun k hk h0 => absurd (e1 k hk) h0⟩
      · rw [f2]
        unfold q_vm
        rw [lk 61 2 63 (by decide), iv 63 0 0 (by decide)]
      · rw [f3]
        unfold q_vm
        rw [lk 61 3 64 (by decide), iv 64 0 0 (by decide)]
      · rw [f4]
        unfold q_vm
        rw [lk 61 4 65 (by decide), iv 65 0 (-1) (by decide)]
      · rw [f5]
        unfold q_vm
        rw [lk 61 5 66 (by decide), iv 66 0 0 (by decide)]
    · have e1 : ∀ k, k < 3 → r_im h1 k = 0 := fun k hk => by
        unfold r_im
        rw [show r_I h1 = 32 from hs_lkS k4 l2]
        match k, hk with
        | 0, _ => exact hs_nlS k4 i0
        | 1, _ => exact hs_nlS k4 i1
        | 2, _ => exact hs_nlS k4 i2
      unfold hs_m at l12
      rw [Bool.and_eq_true, Bool.and_eq_true] at l12
      have lk : ∀ a k b, (a, (k, b)) ∈ hs_L → h_r h1 a k = b := fun a k b hq => hs_lkS k4 (List.all_eq_true.mp l12.1 _ hq)
      refine ⟨rfl, ?_, fun j k hj hk h0 _ => absurd (e1 j hj) h0⟩
      rw [show h_r h1 16 0 = 17 from lk 16 0 17 (by decide)]
      have ac : ∀ r, r < 4 → q_ac h1 17 r = 20 + 3 * r ∧ h_r h1 (20 + 3 * r) 0 = 21 + 3 * r ∧ h_r h1 (20 + 3 * r) 1 = 22 + 3 * r := fun r hr => by
        unfold q_ac
        rw [lk 17 1 19 (by decide)]
        match r, hr with
        | 0, _ => exact ⟨lk 19 0 20 (by decide), lk 20 0 21 (by decide), lk 20 1 22 (by decide)⟩
        | 1, _ => exact ⟨lk 19 1 23 (by decide), lk 23 0 24 (by decide), lk 23 1 25 (by decide)⟩
        | 2, _ => exact ⟨lk 19 2 26 (by decide), lk 26 0 27 (by decide), lk 26 1 28 (by decide)⟩
        | 3, _ => exact ⟨lk 19 3 29 (by decide), lk 29 0 30 (by decide), lk 29 1 31 (by decide)⟩
      intro r s hr hs hn
      obtain ⟨a1, a2, a3⟩ := ac r hr
      obtain ⟨b1, b2, b3⟩ := ac s hs
      have hrs : r ≠ s := hn.resolve_left (fun z => z rfl)
      rw [a1, b1, a2, b2, a3, b3]
      omega
    · unfold hs_m at l12
      rw [Bool.and_eq_true, Bool.and_eq_true] at l12
      have lk : ∀ a k b, (a, (k, b)) ∈ hs_L → h_r h1 a k = b := fun a k b hq => hs_lkS k4 (List.all_eq_true.mp l12.1 _ hq)
      have iv : ∀ a k z, (a, (k, z)) ∈ hs_V → (h_i h1 a k).toInt = z := fun a k z hq => hs_ivS k4 (List.all_eq_true.mp l12.2.1 _ hq)
      have kd : ∀ a q, (a, q) ∈ hs_K → h_k h1 a = q := fun a q hq => hs_kdS k4 (List.all_eq_true.mp l12.2.2 _ hq)
      have rg : ∀ k, k < 6 → c_r0 (2 + k) = 2 ∧ c_r0 (8 + k) = 3 := by decide
      refine ⟨rg, rfl, fun k hk => ?_, ⟨kd 1 _ (by decide), fun j hj => iv 1 j _ ((show ∀ j, j < 18 → (1, (j, lm_at j)) ∈ hs_V by decide) j hj)⟩⟩
      refine ⟨(t_spec hTH (by decide) (rfl : c_sp[2]? = some _) (rg k hk).1).1, lk _ _ _ ((show ∀ k, k < 6 → (2 + k, (0, 8 + k)) ∈ hs_L by decide) k hk), Int32.toInt_inj.mp (iv _ _ 0 ((show ∀ k, k < 6 → (2 + k, (1, (0 : Int))) ∈ hs_V by decide) k hk)), kd _ _ ((show ∀ k, k < 6 → (8 + k, (21, (rd_nm k).length)) ∈ hs_K by decide) k hk), (show ∀ k, k < 6 → (rd_nm k).length ≤ 5 by decide) k hk, fun i hi => ⟨iv _ _ _ ((show ∀ k, k < 6 → ∀ i, i < (rd_nm k).length → (8 + k, (i, (rd_nm k).getD i 0)) ∈ hs_V by decide) k hk i hi), (show ∀ k, k < 6 → ∀ i, i < (rd_nm k).length → 0 ≤ (rd_nm k).getD i 0 ∧ (rd_nm k).getD i 0 ≤ 127 by decide) k hk i hi⟩⟩
    · have e1 : ∀ k, k < 3 → r_im h1 k = 0 := fun k hk => by
        unfold r_im
        rw [show r_I h1 = 32 from hs_lkS k4 l2]
        match k, hk with
        | 0, _ => exact hs_nlS k4 i0
        | 1, _ => exact hs_nlS k4 i1
        | 2, _ => exact hs_nlS k4 i2
      have s0 : ∀ k, k < 4 → r_sl h1 k = 0 := fun k hk => by
        unfold r_sl
        rw [show r_P h1 = 33 from hs_lkS k4 l1]
        match k, hk with
        | 0, _ => exact hs_nlS k4 n0
        | 1, _ => exact hs_nlS k4 n1
        | 2, _ => exact hs_nlS k4 n2
        | 3, _ => exact hs_nlS k4 n3
      unfold hs_m at l12
      rw [Bool.and_eq_true, Bool.and_eq_true] at l12
      have lk : ∀ a k b, (a, (k, b)) ∈ hs_L → h_r h1 a k = b := fun a k b hq => hs_lkS k4 (List.all_eq_true.mp l12.1 _ hq)
      have iv : ∀ a k z, (a, (k, z)) ∈ hs_V → (h_i h1 a k).toInt = z := fun a k z hq => hs_ivS k4 (List.all_eq_true.mp l12.2.1 _ hq)
      have f5 : q_fd h1 (h_r h1 16 0) 5 = 0 := by
        rw [show h_r h1 16 0 = 17 from lk 16 0 17 (by decide)]
        exact iv 17 5 0 (by decide)
      exact ⟨rfl, fun k hk h0 => absurd (s0 k hk) h0, fun r hr => by omega, fun r hr => by omega, fun k hk h0 => absurd (e1 k hk) h0⟩
  · cases hrun
end
section
-- A PAST AT WORK: its own two regions, the others out of the way; and back
def z_Z : List Nat := [6, 9, 29, 39, 47, 48]
def act_r (ρ : Nat → Nat) (h : MH) (p a : Nat) : Nat := if a = p then 47 else if a = h_r h p 0 then 48 else if z_Z.contains (ρ a) = true then 0 else ρ a
def act_u (ρ ρ1 : Nat → Nat) (h : MH) (a : Nat) : Nat := if a < 16 + h_n h then ρ a else ρ1 a
def z_ft (t : FT) : Bool := match t with
  | .inr (.inr q) => !z_Z.contains q.1
  | _ => true
def z_all : Bool := (List.range c_sp.length).all (fun R => z_Z.contains R || (match c_sp[R]? with
  | some rs => rs.2.2.2.all z_ft
  | none => true))
theorem z_allT : z_all = true := by decide +kernel
theorem z_sp {R k : Nat} {rs : RS} {ft : FT} (hs : c_sp[R]? = some rs) (hR : ¬ R ∈ z_Z) (hf : r_ft rs k = some ft) : z_ft ft = true := by
  have hb := List.all_eq_true.mp z_allT R (List.mem_range.mpr (List.getElem?_eq_some_iff.mp hs).1)
  rw [Bool.or_eq_true, hs] at hb
  rcases hb with hb | hb
  · exact absurd (List.contains_iff_mem.mp hb) hR
  · have hm : ft ∈ rs.2.2.2 := by
      unfold r_ft at hf
      split at hf
      · exact List.mem_of_getElem? hf
      · exact List.mem_of_getElem? hf
    exact List.all_eq_true.mp hb ft hm
-- a field's word in another reading of the heap's addresses
theorem z_t {ρ1 ρ2 : Nat → Nat} {h : MH} {a k : Nat} {ft : FT} (hz : z_ft ft = true) (hb : ∀ b, ρ1 b ≠ 0 → ¬ ρ1 b ∈ z_Z → ρ2 b = ρ1 b) (f : t_ft ρ1 ft h a k) : t_ft ρ2 ft h a k := by
  cases ft with
  | inl p => exact f
  | inr t => cases t with
    | inl u => trivial
    | inr q =>
      have f : t_rf ρ1 q.1 q.2 (h_r h a k) := f
      show t_rf ρ2 q.1 q.2 (h_r h a k)
      rcases f with f | ⟨f1, f2, f3⟩
      · exact Or.inl f
      · refine Or.inr ⟨f1, f2, ?_⟩
        have hq : ¬ q.1 ∈ z_Z := fun e => by
          have : (!z_Z.contains q.1) = true := hz
          rw [List.contains_iff_mem.mpr e] at this
          cases this
        rw [hb _ (by rw [f3]; exact f2) (by rw [f3]; exact hq)]
        exact f3
theorem z_mem {R : Nat} : R ∈ z_Z ↔ (R = 6 ∨ R = 9 ∨ R = 29 ∨ R = 39 ∨ R = 47 ∨ R = 48) := by
  unfold z_Z
  simp only [List.mem_cons, List.not_mem_nil, or_false]
section
variable {ρ ρ1 : Nat → Nat} {h h' : MH} {p : Nat}
theorem act_n (ht : TH c_sp ρ h) (hp : ρ p = 29) : ρ (h_r h p 0) = 39 := (th_rf ht (by decide) rfl hp rfl (fun z => by cases z)).2
theorem act_b (ht : TH c_sp ρ h) (hp : ρ p = 29) (b : Nat) (h0 : ρ b ≠ 0) (hz : ¬ ρ b ∈ z_Z) : act_r ρ h p b = ρ b := by
  unfold act_r
  rw [if_neg (fun e => hz (by rw [e, hp]; decide)), if_neg (fun e => hz (by rw [e, act_n ht hp]; decide)), if_neg (fun e => hz (List.contains_iff_mem.mp e))]
theorem act_p : act_r ρ h p p = 47 := if_pos rfl
theorem act_nn (ht : TH c_sp ρ h) (hp : ρ p = 29) : act_r ρ h p (h_r h p 0) = 48 := by
  unfold act_r
  rw [if_neg (fun e => by
    have := act_n ht hp
    rw [e, hp] at this
    cases this), if_pos rfl]
-- what an address may be at work
theorem act_c (ht : TH c_sp ρ h) (hp : ρ p = 29) (a : Nat) (ha : act_r ρ h p a ≠ 0) : (a = p ∧ act_r ρ h p a = 47) ∨ (a = h_r h p 0 ∧ act_r ρ h p a = 48) ∨ (act_r ρ h p a = ρ a ∧ ¬ ρ a ∈ z_Z) := by
  unfold act_r at ha ⊢
  by_cases h1 : a = p
  · rw [if_pos h1]
    exact Or.inl ⟨h1, rfl⟩
  · rw [if_neg h1] at ha ⊢
    by_cases h2 : a = h_r h p 0
    · rw [if_pos h2]
      exact Or.inr (Or.inl ⟨h2, rfl⟩)
    · rw [if_neg h2] at ha ⊢
      by_cases h3 : z_Z.contains (ρ a) = true
      · rw [if_pos h3] at ha
        exact absurd rfl ha
      · rw [if_neg h3]
        exact Or.inr (Or.inr ⟨rfl, fun e => h3 (List.contains_iff_mem.mpr e)⟩)
theorem act_TH (ht : TH c_sp ρ h) (hp : ρ p = 29) : TH c_sp (act_r ρ h p) h := by
  have hb := act_b ht hp
  have hn := act_n ht hp
  have hp0 : p ≠ 0 := fun e => by rw [e, ht.1] at hp; cases hp
  have hn0 : h_r h p 0 ≠ 0 := fun e => by rw [e, ht.1] at hn; cases hn
  refine ⟨?_, fun a ha => ?_⟩
  · unfold act_r
    rw [if_neg (fun e => hp0 e.symm), if_neg (fun e => hn0 e.symm), ht.1]
    rfl
  · rcases act_c ht hp a ha with ⟨e1, e2⟩ | ⟨e1, e2⟩ | ⟨e1, e2⟩
    · subst e1
      obtain ⟨b1, rs, b2, b3, b4, b5, b6⟩ := ht.2 a (by rw [hp]; decide)
      rw [hp] at b2
      cases b2
      refine ⟨b1, _, (congrArg (fun R => c_sp[R]?) e2).trans (rfl : c_sp[47]? = some _), b3, b4, b5, fun k ft hk hl => ?_⟩
      match k, hk with
      | 0, hk =>
        cases hk
        exact Or.inr ⟨hn0, by decide, act_nn ht hp⟩
      | k + 1, hk =>
        have b7 := b6 (k + 1) ft hk (fun z => by cases z)
        refine z_t ?_ hb b7
        match k, hk with
        | 0, hk => cases hk; rfl
        | 1, hk => cases hk; rfl
        | 2, hk => cases hk; rfl
        | 3, hk => cases hk; rfl
        | 4, hk => cases hk; rfl
        | 5, hk => cases hk; rfl
        | 6, hk => cases hk; rfl
        | 7, hk => cases hk; rfl
        | 8, hk => cases hk; rfl
        | 9, hk => cases hk; rfl
        | 10, hk => cases hk; rfl
        | 11, hk => cases hk; rfl
        | 12, hk => cases hk; rfl
        | k + 13, hk => cases hk
    · subst e1
      obtain ⟨b1, rs, b2, b3, b4, b5, b6⟩ := ht.2 (h_r h p 0) (by rw [hn]; decide)
      rw [hn] at b2
      cases b2
      refine ⟨b1, _, (congrArg (fun R => c_sp[R]?) e2).trans (rfl : c_sp[48]? = some _), b3, b4, b5, fun k ft hk hl => ?_⟩
      match k, hk with
      | 0, hk => cases hk; exact z_t rfl hb (b6 0 _ rfl (fun z => by cases z))
      | 1, hk => cases hk; exact z_t rfl hb (b6 1 _ rfl (fun z => by cases z))
      | 2, hk => cases hk; exact z_t rfl hb (b6 2 _ rfl (fun z => by cases z))
      | 3, hk => cases hk; exact z_t rfl hb (b6 3 _ rfl (fun z => by cases z))
      | 4, hk => cases hk; exact z_t rfl hb (b6 4 _ rfl (fun z => by cases z))
      | 5, hk =>
        cases hk
        have b7 : (0 : Int) ≤ (h_i h (h_r h p 0) 5).toInt ∧ (h_i h (h_r h p 0) 5).toInt ≤ (15120 : Int) := b6 5 _ rfl (fun z => by cases z)
        show (0 : Int) ≤ (h_i h (h_r h p 0) 5).toInt ∧ (h_i h (h_r h p 0) 5).toInt ≤ (16000 : Int)
        omega
      | 6, hk => cases hk; exact z_t rfl hb (b6 6 _ rfl (fun z => by cases z))
      | k + 7, hk => cases hk
    · rw [e1] at ha
      obtain ⟨b1, rs, b2, b3, b4, b5, b6⟩ := ht.2 a ha
      refine ⟨b1, rs, by rw [e1]; exact b2, b3, b4, b5, fun k ft hk hl => ?_⟩
      exact z_t (z_sp b2 e2 hk) hb (b6 k ft hk hl)
theorem act_CC (ht : TH c_sp ρ h) (hp : ρ p = 29) (hC : CCok c_CC ρ) : CCok c_CC (act_r ρ h p) := by
  have hb := act_b ht hp
  have key : ∀ R a, R ≠ 0 → ¬ R ∈ z_Z → t_rf ρ R true a → t_rf (act_r ρ h p) R true a := fun R a h0 hz q => by
    rcases q with ⟨-, q⟩ | ⟨q1, q2, q3⟩
    · cases q
    · exact Or.inr ⟨q1, q2, by rw [hb a (by rw [q3]; exact q2) (by rw [q3]; exact hz)]; exact q3⟩
  exact ⟨key _ _ (by decide) (by decide) hC.1, fun a h1 h2 => key _ _ (by decide) (by decide) (hC.2.1 a h1 h2), key _ _ (by decide) (by decide) hC.2.2⟩
theorem act_nd (ht : TH c_sp ρ h) (hp : ρ p = 29) (k : t_nd ρ h) : t_nd (act_r ρ h p) h := fun a ha => by
  rcases act_c ht hp a (by rcases ha with e | e <;> (rw [e]; decide)) with ⟨e1, e2⟩ | ⟨e1, e2⟩ | ⟨e1, e2⟩
  · rw [e2] at ha
    rcases ha with e | e <;> cases e
  · rw [e1]
    exact k _ (Or.inl (act_n ht hp))
  · rw [e1] at ha
    exact absurd (z_mem.mpr (by rcases ha with e | e <;> (rw [e]; decide))) e2
theorem act_keep {R a : Nat} (ht : TH c_sp ρ h) (hp : ρ p = 29) (ha : act_r ρ h p a = R) (h0 : R ≠ 0) (h1 : R ≠ 47) (h2 : R ≠ 48) : ρ a = R := by
  rcases act_c ht hp a (by rw [ha]; exact h0) with ⟨_, e2⟩ | ⟨_, e2⟩ | ⟨e1, _⟩
  · exact absurd (ha.symm.trans e2) h1
  · exact absurd (ha.symm.trans e2) h2
  · exact e1.symm.trans ha
theorem act_rm (ht : TH c_sp ρ h) (hp : ρ p = 29) (k : t_rm ρ h) : t_rm (act_r ρ h p) h := by
  obtain ⟨⟨a1, a2, a3, a4, a5⟩, b, c, d, e⟩ := k
  have hn := act_n ht hp
  have one : ∀ {a R : Nat}, r_iu ρ h a R → R ≠ 29 → R ≠ 39 → r_iu (act_r ρ h p) h a R := fun {a R} q h1 h2 => by
    refine ⟨q.1, ?_⟩
    unfold act_r
    have na : ρ a ≠ 29 ∧ ρ a ≠ 39 := by
      rcases q.2 with z | z
      · rw [z]
        exact ⟨h1, h2⟩
      · rw [z]
        decide
    rw [if_neg (fun e => na.1 (by rw [e]; exact hp)), if_neg (fun e => na.2 (by rw [e]; exact hn))]
    split
    · exact Or.inr rfl
    · exact q.2
  refine ⟨⟨one a1 (by decide) (by decide), one a2 (by decide) (by decide), one a3 (by decide) (by decide), one a4 (by decide) (by decide), a5.1, fun a ha => a5.2.1 a (act_keep ht hp ha (by decide) (by decide) (by decide)), fun a ha => a5.2.2 a (act_keep ht hp ha (by decide) (by decide) (by decide))⟩, fun k hk => ?_, fun a ha => ?_, d, e⟩
  · rcases b k hk with z | ⟨z1, z2, z3⟩
    · exact Or.inl z
    · refine Or.inr ⟨⟨z1.1, ?_⟩, ⟨z2.1, ?_⟩, z3⟩
      · unfold act_r
        by_cases e1 : r_sl h k = p
        · rw [if_pos e1]
          exact Or.inr (Or.inl rfl)
        · rw [if_neg e1]
          split
          · next e2 =>
            have q := z1.2
            rw [e2, hn] at q
            rcases q with q | q | q <;> cases q
          · split
            · exact Or.inr (Or.inr rfl)
            · exact z1.2
      · unfold act_r
        by_cases e1 : r_no h k = p
        · have q := z2.2
          rw [e1, hp] at q
          rcases q with q | q | q <;> cases q
        · rw [if_neg e1]
          split
          · exact Or.inr (Or.inl rfl)
          · split
            · exact Or.inr (Or.inr rfl)
            · exact z2.2
  · rcases act_c ht hp a (by rcases ha with e | e <;> (rw [e]; decide)) with ⟨e1, e2⟩ | ⟨e1, e2⟩ | ⟨e1, e2⟩
    · rw [e2] at ha
      rcases ha with e | e <;> cases e
    · rw [e1]
      exact c _ (Or.inl hn)
    · rw [e1] at ha
      exact absurd (z_mem.mpr (by rcases ha with e | e <;> (rw [e]; decide))) e2
end
-- and back
def act_i (R : Nat) : Nat := if R = 47 then 29 else if R = 48 then 39 else R
def act_q (W : List (Nat × Nat)) (q : Nat × Nat) : Bool := (!(q.1 == 0) && !(q == (47, 0))) && ((!(q == (47, 1001)) && W.contains (act_i q.1, q.2)) && (!(q.2 == 1002) || !z_Z.contains q.1))
def act_W (WA W : List (Nat × Nat)) : Bool := WA.all (act_q W)
theorem act_w1 {WA W : List (Nat × Nat)} (hw : act_W WA W = true) {q : Nat × Nat} (hq : q ∈ WA) : q.1 ≠ 0 ∧ q ≠ (47, 0) ∧ q ≠ (47, 1001) ∧ (act_i q.1, q.2) ∈ W ∧ (q.2 = 1002 → ¬ q.1 ∈ z_Z) := by
  have hb : act_q W q = true := List.all_eq_true.mp hw q hq
  unfold act_q at hb
  rw [Bool.and_eq_true, Bool.and_eq_true, Bool.and_eq_true, Bool.and_eq_true] at hb
  obtain ⟨⟨b1, b2⟩, ⟨b3, b4⟩, b5⟩ := hb
  refine ⟨fun e => ?_, fun e => ?_, fun e => ?_, List.contains_iff_mem.mp b4, fun e z => ?_⟩
  · rw [e] at b1
    cases b1
  · rw [e] at b2
    cases b2
  · rw [e] at b3
    cases b3
  · rw [e, List.contains_iff_mem.mpr z] at b5
    cases b5
section
variable {ρ ρ1 : Nat → Nat} {h h' : MH} {p : Nat} {WA W : List (Nat × Nat)}
theorem act_z (hw : act_W WA W = true) (k : Nat) : ¬ t_W WA 0 k := fun z => by
  rcases z with z | z
  · exact (act_w1 hw z).1 rfl
  · exact (act_w1 hw z).1 rfl
theorem act_t (hw : act_W WA W = true) (ht : TH c_sp ρ h) (hp : ρ p = 29) {a k : Nat} (hh : ¬ t_W W (ρ a) k) : ¬ t_W WA (act_r ρ h p a) k := fun z => by
  by_cases h0 : act_r ρ h p a = 0
  · rw [h0] at z
    exact act_z hw k z
  · have e : act_i (act_r ρ h p a) = ρ a := by
      rcases act_c ht hp a h0 with ⟨e1, e2⟩ | ⟨e1, e2⟩ | ⟨e1, e2⟩
      · rw [e2, e1, hp]
        rfl
      · rw [e2, e1, act_n ht hp]
        rfl
      · rw [e1]
        unfold act_i
        rw [if_neg (fun e => e2 (by rw [e]; decide)), if_neg (fun e => e2 (by rw [e]; decide))]
    refine hh ?_
    rcases z with z | z
    · have := (act_w1 hw z).2.2.2.1
      rw [e] at this
      exact Or.inl this
    · have := (act_w1 hw z).2.2.2.1
      rw [e] at this
      exact Or.inr this
-- what is new
theorem act_new (f : FQ (act_r ρ h p) ρ1 WA h h') (ht : TH c_sp ρ h) (hp : ρ p = 29) (hw : act_W WA W = true) {a : Nat} (ha : 16 + h_n h ≤ a) (h1 : ρ1 a ≠ 0) : (ρ1 a, 1002) ∈ W ∧ ¬ ρ1 a ∈ z_Z := by
  have h0 : act_r ρ h p a = 0 := by
    by_cases e : act_r ρ h p a = 0
    · exact e
    · have := ((act_TH ht hp).2 a e).1
      omega
  have hm := (f.2.2.1 a h0 h1).2
  have hz := act_w1 hw hm
  have hz5 : ¬ ρ1 a ∈ z_Z := hz.2.2.2.2 rfl
  refine ⟨?_, hz5⟩
  have h4 : (act_i (ρ1 a), 1002) ∈ W := hz.2.2.2.1
  have e : act_i (ρ1 a) = ρ1 a := by
    unfold act_i
    rw [if_neg (fun e => hz5 (by rw [e]; decide)), if_neg (fun e => hz5 (by rw [e]; decide))]
  rw [e] at h4
  exact h4
theorem act_un (a : Nat) (ha : a < 16 + h_n h) : act_u ρ ρ1 h a = ρ a := if_pos ha
theorem act_uw (a : Nat) (ha : 16 + h_n h ≤ a) : act_u ρ ρ1 h a = ρ1 a := if_neg (by omega)
theorem act_FQ (f : FQ (act_r ρ h p) ρ1 WA h h') (ht : TH c_sp ρ h) (hp : ρ p = 29) (hw : act_W WA W = true) (hm : (1000, 1002) ∈ W) : FQ ρ (act_u ρ ρ1 h) W h h' := by
  refine ⟨⟨f.1.1, fun z => absurd hm z⟩, fun a ha => act_un a (ht.2 a ha).1, fun a h0 h1 => ?_, fun a ha => ?_⟩
  · by_cases hl : a < 16 + h_n h
    · rw [act_un a hl] at h1
      exact absurd h0 h1
    · have hl2 : 16 + h_n h ≤ a := by omega
      rw [act_uw a hl2] at h1 ⊢
      exact ⟨hl2, (act_new f ht hp hw hl2 h1).1⟩
  · obtain ⟨x1, x2⟩ := f.2.2.2 a ha
    exact ⟨x1, fun k hk => x2 k (act_t hw ht hp hk)⟩
-- a region that the work leaves alone is the same before and behind
theorem act_bb (f : FQ (act_r ρ h p) ρ1 WA h h') (ht : TH c_sp ρ h) (hp : ρ p = 29) (b : Nat) (h0 : ρ1 b ≠ 0) (hz : ¬ ρ1 b ∈ z_Z) : act_u ρ ρ1 h b = ρ1 b := by
  by_cases hl : b < 16 + h_n h
  · rw [act_un b hl]
    have e := f.same hl
    rw [e] at h0 hz ⊢
    rcases act_c ht hp b h0 with ⟨e1, e2⟩ | ⟨e1, e2⟩ | ⟨e1, e2⟩
    · rw [e2] at hz
      exact absurd (by decide) hz
    · rw [e2] at hz
      exact absurd (by decide) hz
    · exact e1.symm
  · exact act_uw b (by omega)
theorem act_r0 (f : FQ (act_r ρ h p) ρ1 WA h h') (hp0 : p < 16 + h_n h) (hw : act_W WA W = true) : h_r h' p 0 = h_r h p 0 := by
  refine ((f.2.2.2 p hp0).2 0 (fun z => ?_)).2.2
  rw [act_p] at z
  rcases z with z | z
  · exact (act_w1 hw z).2.1 rfl
  · exact (act_w1 hw z).2.2.1 rfl
-- an object that the work doesn't reach
theorem act_far (f : FQ (act_r ρ h p) ρ1 WA h h') (hw : act_W WA W = true) {a : Nat} (ha : a < 16 + h_n h) (h0 : act_r ρ h p a = 0) : h_k h' a = h_k h a ∧ ∀ k, h_i h' a k = h_i h a k ∧ h_l h' a k = h_l h a k ∧ h_r h' a k = h_r h a k := by
  obtain ⟨x1, x2⟩ := f.2.2.2 a ha
  refine ⟨x1, fun k => x2 k ?_⟩
  rw [h0]
  exact act_z hw k
theorem act_tu (ht : TH c_sp ρ h) {a k : Nat} {ft : FT} (e : h_i h' a k = h_i h a k ∧ h_l h' a k = h_l h a k ∧ h_r h' a k = h_r h a k) (x : t_ft ρ ft h a k) : t_ft (act_u ρ ρ1 h) ft h' a k := by
  cases ft with
  | inl q =>
    have x : q.1 ≤ (h_i h a k).toInt ∧ (h_i h a k).toInt ≤ q.2 := x
    show q.1 ≤ (h_i h' a k).toInt ∧ (h_i h' a k).toInt ≤ q.2
    rw [e.1]
    exact x
  | inr t => cases t with
    | inl u => trivial
    | inr q =>
      have x : t_rf ρ q.1 q.2 (h_r h a k) := x
      show t_rf (act_u ρ ρ1 h) q.1 q.2 (h_r h' a k)
      rw [e.2.2]
      rcases x with x | ⟨x1, x2, x3⟩
      · exact Or.inl x
      · refine Or.inr ⟨x1, x2, ?_⟩
        rw [act_un _ (ht.2 _ (by rw [x3]; exact x2)).1]
        exact x3
theorem act_TU (f : FQ (act_r ρ h p) ρ1 WA h h') (ht : TH c_sp ρ h) (hp : ρ p = 29) (hw : act_W WA W = true) (h1 : TH c_sp ρ1 h') (hm : (h_i h' (h_r h p 0) 5).toInt ≤ 15120) : TH c_sp (act_u ρ ρ1 h) h' := by
  have hb := act_bb f ht hp
  have hn := act_n ht hp
  have hpl : p < 16 + h_n h := (ht.2 p (by rw [hp]; decide)).1
  have hnl : h_r h p 0 < 16 + h_n h := (ht.2 _ (by rw [hn]; decide)).1
  have hn0 : h_r h p 0 ≠ 0 := fun e => by rw [e, ht.1] at hn; cases hn
  have hle := f.1.1
  refine ⟨by rw [act_un 0 (by omega)]; exact ht.1, fun a ha => ?_⟩
  by_cases hl : a < 16 + h_n h
  · rw [act_un a hl] at ha ⊢
    by_cases hA : act_r ρ h p a = 0
    · obtain ⟨b1, rs, b2, b3, b4, b5, b6⟩ := ht.2 a ha
      obtain ⟨y1, y2⟩ := act_far f hw hl hA
      refine ⟨by omega, rs, b2, by rw [y1]; exact b3, by rw [y1]; exact b4, b5, fun k ft hk hj => ?_⟩
      rw [y1] at hj
      exact act_tu ht (y2 k) (b6 k ft hk hj)
    · have e := f.same hl
      rcases act_c ht hp a hA with ⟨e1, e2⟩ | ⟨e1, e2⟩ | ⟨e1, e2⟩
      · subst e1
        have hr := act_r0 f hpl hw
        obtain ⟨b1, rs, b2, b3, b4, b5, b6⟩ := h1.2 a (by rw [e, e2]; decide)
        rw [e, e2] at b2
        cases b2
        refine ⟨b1, _, (congrArg (fun R => c_sp[R]?) hp).trans (rfl : c_sp[29]? = some _), b3, b4, b5, fun k ft hk hj => ?_⟩
        match k, hk with
        | 0, hk =>
          cases hk
          show t_rf (act_u ρ ρ1 h) 39 true (h_r h' a 0)
          rw [show h_r h' a 0 = h_r h a 0 from hr]
          exact Or.inr ⟨hn0, by decide, by rw [act_un _ hnl]; exact hn⟩
        | 1, hk => cases hk; exact z_t rfl hb (b6 1 _ rfl (fun z => by cases z))
        | 2, hk => cases hk; exact z_t rfl hb (b6 2 _ rfl (fun z => by cases z))
        | 3, hk => cases hk; exact z_t rfl hb (b6 3 _ rfl (fun z => by cases z))
        | 4, hk => cases hk; exact z_t rfl hb (b6 4 _ rfl (fun z => by cases z))
        | 5, hk => cases hk; exact z_t rfl hb (b6 5 _ rfl (fun z => by cases z))
        | 6, hk => cases hk; exact z_t rfl hb (b6 6 _ rfl (fun z => by cases z))
        | 7, hk => cases hk; exact z_t rfl hb (b6 7 _ rfl (fun z => by cases z))
        | 8, hk => cases hk; exact z_t rfl hb (b6 8 _ rfl (fun z => by cases z))
        | 9, hk => cases hk; exact z_t rfl hb (b6 9 _ rfl (fun z => by cases z))
        | 10, hk => cases hk; exact z_t rfl hb (b6 10 _ rfl (fun z => by cases z))
        | 11, hk => cases hk; exact z_t rfl hb (b6 11 _ rfl (fun z => by cases z))
        | 12, hk => cases hk; exact z_t rfl hb (b6 12 _ rfl (fun z => by cases z))
        | 13, hk => cases hk; exact z_t rfl hb (b6 13 _ rfl (fun z => by cases z))
        | k + 14, hk => cases hk
      · subst e1
        obtain ⟨b1, rs, b2, b3, b4, b5, b6⟩ := h1.2 (h_r h p 0) (by rw [e, e2]; decide)
        rw [e, e2] at b2
        cases b2
        refine ⟨b1, _, (congrArg (fun R => c_sp[R]?) hn).trans (rfl : c_sp[39]? = some _), b3, b4, b5, fun k ft hk hj => ?_⟩
        match k, hk with
        | 0, hk => cases hk; exact z_t rfl hb (b6 0 _ rfl (fun z => by cases z))
        | 1, hk => cases hk; exact z_t rfl hb (b6 1 _ rfl (fun z => by cases z))
        | 2, hk => cases hk; exact z_t rfl hb (b6 2 _ rfl (fun z => by cases z))
        | 3, hk => cases hk; exact z_t rfl hb (b6 3 _ rfl (fun z => by cases z))
        | 4, hk => cases hk; exact z_t rfl hb (b6 4 _ rfl (fun z => by cases z))
        | 5, hk =>
          cases hk
          have b7 : (0 : Int) ≤ (h_i h' (h_r h p 0) 5).toInt ∧ (h_i h' (h_r h p 0) 5).toInt ≤ (16000 : Int) := b6 5 _ rfl (fun z => by cases z)
          exact ⟨b7.1, hm⟩
        | 6, hk => cases hk; exact z_t rfl hb (b6 6 _ rfl (fun z => by cases z))
        | k + 7, hk => cases hk
      · obtain ⟨b1, rs, b2, b3, b4, b5, b6⟩ := h1.2 a (by rw [e]; exact hA)
        rw [e, e1] at b2
        exact ⟨b1, rs, b2, b3, b4, b5, fun k ft hk hj => z_t (z_sp b2 e2 hk) hb (b6 k ft hk hj)⟩
  · have hl2 : 16 + h_n h ≤ a := by omega
    rw [act_uw a hl2] at ha ⊢
    have hz := (act_new f ht hp hw hl2 ha).2
    obtain ⟨b1, rs, b2, b3, b4, b5, b6⟩ := h1.2 a ha
    exact ⟨b1, rs, b2, b3, b4, b5, fun k ft hk hj => z_t (z_sp b2 hz hk) hb (b6 k ft hk hj)⟩
end
section
variable {ρ ρ1 : Nat → Nat} {h h' : MH} {p : Nat} {WA W : List (Nat × Nat)}
theorem act_nd2 (f : FQ (act_r ρ h p) ρ1 WA h h') (ht : TH c_sp ρ h) (hp : ρ p = 29) (hw : act_W WA W = true) (k : t_nd ρ h) (k1 : t_nd ρ1 h') : t_nd (act_u ρ ρ1 h) h' := fun a ha => by
  by_cases hl : a < 16 + h_n h
  · rw [act_un a hl] at ha
    by_cases hA : act_r ρ h p a = 0
    · have y := (act_far f hw hl hA).2
      have k0 := k a ha
      have e1 : ∃ R, R ≠ 0 ∧ ρ (h_r h a 1) = R := by
        rcases ha with e | e
        · exact ⟨_, by decide, (th_rf ht (by decide) rfl e rfl (fun z => by cases z)).2⟩
        · exact ⟨_, by decide, (th_rf ht (by decide) rfl e rfl (fun z => by cases z)).2⟩
      have e2 : ∃ R, R ≠ 0 ∧ ρ (h_r h a 0) = R := by
        rcases ha with e | e
        · exact ⟨_, by decide, (th_rf ht (by decide) rfl e rfl (fun z => by cases z)).2⟩
        · exact ⟨_, by decide, (th_rf ht (by decide) rfl e rfl (fun z => by cases z)).2⟩
      obtain ⟨R1, r1, q1⟩ := e1
      obtain ⟨R2, r2, q2⟩ := e2
      have l1 := (ht.2 (h_r h a 1) (by rw [q1]; exact r1)).1
      have l2 := (ht.2 (h_r h a 0) (by rw [q2]; exact r2)).1
      rw [(y 1).2.2, (y 0).2.2, (y 5).1, (f.2.2.2 _ l1).1, (f.2.2.2 _ l2).1]
      exact k0
    · rcases act_c ht hp a hA with ⟨e1, e2⟩ | ⟨e1, e2⟩ | ⟨e1, e2⟩
      · rw [e1, hp] at ha
        rcases ha with e | e <;> cases e
      · exact k1 a (Or.inr ((f.same hl).trans e2))
      · exact absurd (z_mem.mpr (by rcases ha with e | e <;> (rw [e]; decide))) e2
  · have hl2 : 16 + h_n h ≤ a := by omega
    rw [act_uw a hl2] at ha
    exact absurd (z_mem.mpr (by rcases ha with e | e <;> (rw [e]; decide))) (act_new f ht hp hw hl2 (by rcases ha with e | e <;> (rw [e]; decide))).2
theorem act_0 (hp : ρ p = 29) (hn : ρ (h_r h p 0) = 39) {a : Nat} (h1 : a ≠ p) (h2 : ρ a ≠ 39) (h3 : ρ a = 0 ∨ ρ a ∈ z_Z) : act_r ρ h p a = 0 := by
  unfold act_r
  rw [if_neg h1, if_neg (fun e => h2 (by rw [e]; exact hn))]
  rcases h3 with e | e
  · split
    · rfl
    · exact e
  · rw [if_pos (List.contains_iff_mem.mpr e)]
theorem act_rm2 (f : FQ (act_r ρ h p) ρ1 WA h h') (ht : TH c_sp ρ h) (hp : ρ p = 29) (hw : act_W WA W = true) (k : t_rm ρ h) (k1 : t_rm ρ1 h') : t_rm (act_u ρ ρ1 h) h' := by
  have hn := act_n ht hp
  have hpl : p < 16 + h_n h := (ht.2 p (by rw [hp]; decide)).1
  have hle := f.1.1
  obtain ⟨⟨a1, a2, a3, a4, a5⟩, b, c, d, e⟩ := k
  obtain ⟨⟨-, -, -, -, a5', a6', a7'⟩, b', -, d', e'⟩ := k1
  have far : ∀ {a R : Nat}, r_iu ρ h a R → R ≠ 29 → R ≠ 39 → R ∈ z_Z → ∀ j, h_r h' a j = h_r h a j := fun {a R} q h1 h2 h3 j => by
    refine ((act_far f hw q.1 (act_0 hp hn (fun e => ?_) (fun e => ?_) ?_)).2 j).2.2
    · rw [e, r_iu, hp] at q
      rcases q.2 with z | z
      · exact h1 z.symm
      · cases z
    · rw [r_iu, e] at q
      rcases q.2 with z | z
      · exact h2 z.symm
      · cases z
    · rcases q.2 with z | z
      · exact Or.inr (by rw [z]; exact h3)
      · exact Or.inl z
  have e16 := far a1 (by decide) (by decide) (by decide)
  have eP : r_P h' = r_P h := e16 _
  have eI : r_I h' = r_I h := e16 _
  have eS : r_S h' = r_S h := e16 _
  have esl : ∀ j, r_sl h' j = r_sl h j := fun j => by
    show h_r h' (r_P h') j = h_r h (r_P h) j
    rw [eP]
    exact far a2 (by decide) (by decide) (by decide) j
  have eno : ∀ j, r_iu2 ρ h (r_sl h j) 29 47 → r_no h' j = r_no h j := fun j q => by
    show h_r h' (r_sl h' j) 0 = h_r h (r_sl h j) 0
    rw [esl]
    by_cases h1 : r_sl h j = p
    · rw [h1]
      exact act_r0 f hpl hw
    · refine ((act_far f hw q.1 (act_0 hp hn h1 (fun e => ?_) ?_)).2 0).2.2
      · have q := q.2
        rw [e] at q
        rcases q with z | z | z <;> cases z
      · rcases q.2 with z | z | z
        · exact Or.inr (by rw [z]; decide)
        · exact Or.inr (by rw [z]; decide)
        · exact Or.inl z
  have iu : ∀ {a R : Nat}, r_iu ρ h a R → r_iu (act_u ρ ρ1 h) h' a R := fun {a R} q => ⟨by have := q.1; omega, by rw [act_un _ q.1]; exact q.2⟩
  have iu2 : ∀ {a R R2 : Nat}, r_iu2 ρ h a R R2 → r_iu2 (act_u ρ ρ1 h) h' a R R2 := fun {a R R2} q => ⟨by have := q.1; omega, by rw [act_un _ q.1]; exact q.2⟩
  refine ⟨⟨iu a1, by rw [eP]; exact iu a2, by rw [eI]; exact iu a3, by rw [eS]; exact iu a4, a5', fun a ha => ?_, fun a ha => ?_⟩, fun j hj => ?_, fun a ha => ?_, d', e'⟩
  · by_cases hl : a < 16 + h_n h
    · exact a5.2.1 a ((act_un a hl).symm.trans ha)
    · exact a6' a ((act_uw a (by omega)).symm.trans ha)
  · by_cases hl : a < 16 + h_n h
    · rw [eS]
      exact a5.2.2 a ((act_un a hl).symm.trans ha)
    · exact a7' a ((act_uw a (by omega)).symm.trans ha)
  · rcases b j hj with z | ⟨z1, z2, z3⟩
    · exact Or.inl (by rw [esl]; exact z)
    · rcases b' j hj with y | ⟨-, -, y⟩
      · exact Or.inl y
      · exact Or.inr ⟨by rw [esl]; exact iu2 z1, by rw [eno j z1]; exact iu2 z2, y⟩
  · by_cases hl : a < 16 + h_n h
    · rw [act_un a hl] at ha
      obtain ⟨j, j1, j2, j3⟩ := c a ha
      rcases b j j1 with z | ⟨z1, -, -⟩
      · exact absurd z j2
      · exact ⟨j, j1, by rw [esl]; exact j2, by rw [eno j z1]; exact j3⟩
    · have hl2 : 16 + h_n h ≤ a := by omega
      rw [act_uw a hl2] at ha
      exact absurd (z_mem.mpr (by rcases ha with e | e <;> (rw [e]; decide))) (act_new f ht hp hw hl2 (by rcases ha with e | e <;> (rw [e]; decide))).2
end
-- the four methods that stand between: from a Past at work
theorem act_V {j : Nat} {S SA P PA : AST} {WA W : List (Nat × Nat)} (v : V_ok c_sp c_CC c_PT j ((SA, [1, 2]), (WA, [(PA, [1, 2])]))) (hw : act_W WA W = true) (hm : (1000, 1002) ∈ W) (hin : ∀ (ρ : Nat → Nat) (K : List Int) (KA : List Nat) (lv : List (Nat × Value)) (h : MH), TS c_sp ρ K KA S lv [] h → ∃ (p : Nat) (K' : List Int) (KA' : List Nat), ρ p = 29 ∧ TS c_sp (act_r ρ h p) K' KA' SA lv [] h ∧ ∀ (ρ1 : Nat → Nat) (v : List Value) (h' : MH), TS c_sp ρ1 K' KA' PA [] v h' → h_r h' p 0 = h_r h p 0 → (h_i h' (h_r h p 0) 5).toInt ≤ 15120 ∧ ∀ ρ', TH c_sp ρ' h' → TS c_sp ρ' K KA P [] v h') : V_ok c_sp c_CC c_PT j ((S, [1, 2]), (W, [(P, [1, 2])])) := by
  intro ρ K KA lv h hC hS hT
  have ht : TH c_sp ρ h := hS.1
  obtain ⟨p, K', KA', hp, hA, hback⟩ := hin ρ K KA lv h hS
  have k1 : t_nd ρ h := hT 1 (show (1 : Nat) ∈ [1, 2] by decide)
  have k2 : t_rm ρ h := hT 2 (show (2 : Nat) ∈ [1, 2] by decide)
  obtain ⟨n, r, h', ρ1, run, f, Q, hQ, t1, t2⟩ := v (act_r ρ h p) K' KA' lv h (act_CC ht hp hC) hA (fun t ht2 => by
    have ht2 : t ∈ [1, 2] := ht2
    rcases List.mem_cons.mp ht2 with e | ht2
    · rw [e]
      exact act_nd ht hp k1
    · rcases List.mem_cons.mp ht2 with e | ht2
      · rw [e]
        exact act_rm ht hp k2
      · cases ht2)
  have hQ : Q ∈ [(PA, [1, 2])] := hQ
  rcases List.mem_cons.mp hQ with e | hQ
  · subst e
    have hpl : p < 16 + h_n h := (ht.2 p (by rw [hp]; decide)).1
    obtain ⟨b1, b2⟩ := hback ρ1 r.toList h' t1 (act_r0 f hpl hw)
    have hU := act_TU f ht hp hw t1.1 b1
    refine ⟨n, r, h', act_u ρ ρ1 h, run, act_FQ f ht hp hw hm, (P, [1, 2]), List.mem_cons_self .., b2 _ hU, fun t ht2 => ?_⟩
    have ht2 : t ∈ [1, 2] := ht2
    rcases List.mem_cons.mp ht2 with e | ht2
    · rw [e]
      exact act_nd2 f ht hp hw k1 (t2 1 (show (1 : Nat) ∈ [1, 2] by decide))
    · rcases List.mem_cons.mp ht2 with e | ht2
      · rw [e]
        exact act_rm2 f ht hp hw k2 (t2 2 (show (2 : Nat) ∈ [1, 2] by decide))
      · cases ht2
  · cases hQ
theorem kp_c {σ σ2 : Nat → Int} {N : Nat} (hs : ∀ k, k < N → σ2 k = σ k) : (k_pins N).map (le_ev σ2) = (k_pins N).map (le_ev σ) := List.map_congr_left (fun e he => by
  obtain ⟨k, hk, rfl⟩ := List.mem_map.mp he
  rw [le_sE, le_sE]
  exact hs k (List.mem_range.mp hk))
theorem l_evC {σ σ2 : Nat → Int} {N : Nat} (hs : ∀ k, k < N → σ2 k = σ k) : ∀ l : List (Nat × Int), l.all (fun x => decide (x.1 < N)) = true → l_ev σ2 l = l_ev σ l
  | [], _ => rfl
  | (k, z) :: r, h => by
    rw [List.all_cons, Bool.and_eq_true] at h
    rw [l_ev, l_ev, l_evC hs r h.2, hs k (of_decide_eq_true h.1)]
def a_lc (N : Nat) (t : AT) : Bool := match t with
  | .inl e => e.1.all (fun x => decide (x.1 < N))
  | .inr (.inl _) => true
  | _ => false
theorem a_lcS {σ σ2 : Nat → Int} {α α2 ρ ρ2 : Nat → Nat} {N : Nat} {t : AT} {v : Value} (hs : ∀ k, k < N → σ2 k = σ k) (hc : a_lc N t = true) (k : t_at σ α ρ t v) : t_at σ2 α2 ρ2 t v := by
  cases t with
  | inl e =>
    obtain ⟨x, x1, x2⟩ := (k : ∃ x, v = .int x ∧ x.toInt = le_ev σ e)
    refine ⟨x, x1, x2.trans ?_⟩
    unfold le_ev
    rw [l_evC hs e.1 hc]
  | inr t => cases t with
    | inl u => exact k
    | inr q => cases hc
theorem act_three {j N : Nat} {iv : IV} {rest : List (Nat × AT)} {WA W : List (Nat × Nat)} (v : V_ok c_sp c_CC c_PT j ((((iv ++ [(N + 1, (0, 15120))], []), ([((0, (47, 0)), .inr (.inr (N, (48, true)))), ((N, (48, 5)), .inl ([(N + 1, 1)], 0))], ((k_pins (N + 2), List.range (N + 2)), (N + 2, ((0, .inr (.inr (0, (47, true)))) :: rest, []))))), [1, 2]), (WA, [((([(N + 2, ((-2147483648), 2147483647)), (N + 3, (0, 15120))], []), ([((N, (48, 5)), .inl ([(N + 3, 1)], 0))], ((k_pins (N + 2), List.range (N + 2)), (N + 4, ([], [.inl ([(N + 2, 1)], 0)]))))), [1, 2])]))) (hN : 0 < N) (hiv : iv.all (fun q => decide (q.1 < N)) = true) (hr : rest.all (fun q => a_lc N q.2) = true) (hw : act_W WA W = true) (hm : (1000, 1002) ∈ W) : V_ok c_sp c_CC c_PT j ((((iv, []), ([], ((k_pins N, List.range N), (N, ((0, .inr (.inr (0, (29, true)))) :: rest, []))))), [1, 2]), (W, [((([(N, ((-2147483648), 2147483647))], []), ([], ((k_pins N, List.range N), (N + 1, ([], [.inl ([(N, 1)], 0)]))))), [1, 2])])) := by
  refine act_V v hw hm (fun ρ K KA lv h hS => ?_)
  obtain ⟨ht, σ, α, s1, s2, s3, s4, s5, s6, s7⟩ := hS
  have s4 : (k_pins N).map (le_ev σ) = K := s4
  have s5 : (List.range N).map α = KA := s5
  obtain ⟨x, x1, x2⟩ := s6 _ (List.mem_cons_self ..)
  have x2 : x = .ref (α 0) ∧ t_rf ρ 29 true (α 0) := x2
  obtain ⟨hp0, hp⟩ := t_nn x2.2
  have hn := act_n ht hp
  have hn0 : h_r h (α 0) 0 ≠ 0 := fun e => by
    have hn : ρ (h_r h (α 0) 0) = 39 := hn
    rw [e, ht.1] at hn
    cases hn
  have hb : (0 : Int) ≤ (h_i h (h_r h (α 0) 0) 5).toInt ∧ (h_i h (h_r h (α 0) 0) 5).toInt ≤ 15120 := (t_spec ht (R := 39) (by decide) rfl hn).2.2.2 5 (.inl (0, 15120)) rfl (fun z => by cases z)
  obtain ⟨σ2, hσ⟩ : ∃ σ2 : Nat → Int, σ2 = fun k => if k = N + 1 then (h_i h (h_r h (α 0) 0) 5).toInt else σ k := ⟨_, rfl⟩
  obtain ⟨α2, hα⟩ : ∃ α2 : Nat → Nat, α2 = fun k => if k = N then h_r h (α 0) 0 else α k := ⟨_, rfl⟩
  have c1 : ∀ k, k < N → σ2 k = σ k := fun k hk => by rw [hσ]; exact if_neg (by omega)
  have c2 : σ2 (N + 1) = (h_i h (h_r h (α 0) 0) 5).toInt := by rw [hσ]; exact if_pos rfl
  have c3 : α2 N = h_r h (α 0) 0 := by rw [hα]; exact if_pos rfl
  have c4 : α2 0 = α 0 := by rw [hα]; exact if_neg (by omega)
  refine ⟨α 0, (k_pins (N + 2)).map (le_ev σ2), (List.range (N + 2)).map α2, hp, ⟨act_TH ht hp, σ2, α2, ?_, ?_, ?_, rfl, rfl, ?_, trivial⟩, fun ρ1 vs h' hP e0 => ?_⟩
  · intro q hq
    have hq : q ∈ iv ++ [(N + 1, ((0 : Int), (15120 : Int)))] := hq
    rcases List.mem_append.mp hq with z | z
    · rw [c1 q.1 (of_decide_eq_true (List.all_eq_true.mp hiv q z))]
      exact s1 q z
    · rcases List.mem_cons.mp z with e | z
      · rw [e]
        show (0 : Int) ≤ σ2 (N + 1) ∧ σ2 (N + 1) ≤ 15120
        rw [c2]
        exact hb
      · cases z
  · intro q hq
    cases hq
  · intro q hq
    have hq : q ∈ [((0, (47, 0)), (.inr (.inr (N, (48, true))) : AT)), ((N, (48, 5)), .inl ([(N + 1, 1)], 0))] := hq
    rcases List.mem_cons.mp hq with e | hq
    · rw [e]
      refine ⟨⟨by show α2 0 ≠ 0; rw [c4]; exact hp0, by show act_r ρ h (α 0) (α2 0) = 47; rw [c4]; exact act_p⟩, ?_⟩
      show h_r h (α2 0) (t_kx σ2 0) = α2 N ∧ t_rf (act_r ρ h (α 0)) 48 true (α2 N)
      rw [t_kxl (by decide), c4, c3]
      exact ⟨rfl, Or.inr ⟨hn0, by decide, act_nn ht hp⟩⟩
    · rcases List.mem_cons.mp hq with e | hq
      · rw [e]
        refine ⟨⟨by show α2 N ≠ 0; rw [c3]; exact hn0, by show act_r ρ h (α 0) (α2 N) = 48; rw [c3]; exact act_nn ht hp⟩, ?_⟩
        show (h_i h (α2 N) (t_kx σ2 5)).toInt = le_ev σ2 (le_s (N + 1))
        rw [t_kxl (by decide), c3, le_sE, c2]
      · cases hq
  · intro q hq
    have hq : q ∈ ((0, .inr (.inr (0, (47, true)))) :: rest : List (Nat × AT)) := hq
    rcases List.mem_cons.mp hq with e | hq
    · rw [e]
      refine ⟨x, x1, ?_⟩
      show x = .ref (α2 0) ∧ t_rf (act_r ρ h (α 0)) 47 true (α2 0)
      rw [c4]
      exact ⟨x2.1, Or.inr ⟨hp0, by decide, act_p⟩⟩
    · obtain ⟨y, y1, y2⟩ := s6 q (List.mem_cons_of_mem _ hq)
      exact ⟨y, y1, a_lcS c1 (List.all_eq_true.mp hr q hq) y2⟩
  · obtain ⟨ht1, σ', α', p1, p2, p3, p4, p5, p6, p7⟩ := hP
    have p5 : (List.range (N + 2)).map α' = (List.range (N + 2)).map α2 := p5
    have eN : α' N = h_r h (α 0) 0 := (List.map_inj_left.mp p5 N (List.mem_range.mpr (by omega))).trans c3
    have g1 := p1 (N + 2, ((-2147483648), 2147483647)) (List.mem_cons_self ..)
    have g2 := p1 (N + 3, (0, 15120)) (List.mem_cons_of_mem _ (List.mem_cons_self ..))
    have g1 : (-2147483648 : Int) ≤ σ' (N + 2) ∧ σ' (N + 2) ≤ 2147483647 := g1
    have g2 : (0 : Int) ≤ σ' (N + 3) ∧ σ' (N + 3) ≤ 15120 := g2
    have g3 := (p3 _ (List.mem_cons_self ..)).2
    have g3 : (h_i h' (α' N) (t_kx σ' 5)).toInt = le_ev σ' (le_s (N + 3)) := g3
    rw [t_kxl (by decide), le_sE, eN] at g3
    refine ⟨by show (h_i h' (h_r h (α 0) 0) 5).toInt ≤ 15120; rw [g3]; exact g2.2, fun ρ' hT' => ?_⟩
    cases vs with
    | nil => cases p7
    | cons w r => cases r with
      | cons _ _ => cases p7.2
      | nil =>
        obtain ⟨y, y1, y2⟩ := (p7.1 : ∃ x, w = .int x ∧ x.toInt = le_ev σ' (le_s (N + 2)))
        have y2 : y.toInt = le_ev σ' (le_s (N + 2)) := y2
        rw [le_sE] at y2
        subst y1
        have c5 : ∀ k, k < N → s_up σ N y.toInt k = σ k := fun k hk => if_neg (by omega)
        have c6 : s_up σ N y.toInt N = y.toInt := if_pos rfl
        refine ⟨hT', s_up σ N y.toInt, α, ?_, ?_, ?_, (kp_c c5).trans s4, s5, ?_, ⟨⟨y, rfl, ?_⟩, trivial⟩⟩
        · intro q hq
          have hq : q ∈ [(N, ((-2147483648 : Int), (2147483647 : Int)))] := hq
          rcases List.mem_cons.mp hq with e | hq
          · rw [e]
            show (-2147483648 : Int) ≤ s_up σ N y.toInt N ∧ s_up σ N y.toInt N ≤ 2147483647
            rw [c6, y2]
            exact g1
          · cases hq
        · intro q hq
          cases hq
        · intro q hq
          cases hq
        · intro q hq
          cases hq
        · show y.toInt = le_ev (s_up σ N y.toInt) (le_s N)
          rw [le_sE, c6]
theorem act_45 {j R : Nat} {WA W : List (Nat × Nat)} (v : V_ok c_sp c_CC c_PT j (((([], []), ([], ((k_pins 2, List.range 2), (2, ([(0, .inr (.inr (0, (47, true)))), (1, .inr (.inr (1, (R, true))))], []))))), [1, 2]), (WA, [((([(3, (0, 15120))], []), ([((0, (47, 0)), .inr (.inr (2, (48, true)))), ((2, (48, 5)), .inl ([(3, 1)], 0))], ((k_pins 2, List.range 2), (4, ([], []))))), [1, 2])]))) (h0 : R ≠ 0) (hR : ¬ R ∈ z_Z) (hw : act_W WA W = true) (hm : (1000, 1002) ∈ W) : V_ok c_sp c_CC c_PT j (((([], []), ([], ((k_pins 2, List.range 2), (2, ([(0, .inr (.inr (0, (29, true)))), (1, .inr (.inr (1, (R, true))))], []))))), [1, 2]), (W, [((([], []), ([], ((k_pins 2, List.range 2), (2, ([], []))))), [1, 2])])) := by
  refine act_V v hw hm (fun ρ K KA lv h hS => ?_)
  obtain ⟨ht, σ, α, s1, s2, s3, s4, s5, s6, s7⟩ := hS
  have s4 : (k_pins 2).map (le_ev σ) = K := s4
  have s5 : (List.range 2).map α = KA := s5
  obtain ⟨x, x1, x2⟩ := s6 _ (List.mem_cons_self ..)
  have x2 : x = .ref (α 0) ∧ t_rf ρ 29 true (α 0) := x2
  obtain ⟨hp0, hp⟩ := t_nn x2.2
  obtain ⟨y, y1, y2⟩ := s6 _ (List.mem_cons_of_mem _ (List.mem_cons_self ..))
  have y2 : y = .ref (α 1) ∧ t_rf ρ R true (α 1) := y2
  obtain ⟨hq0, hq⟩ := t_nn y2.2
  refine ⟨α 0, K, KA, hp, ⟨act_TH ht hp, σ, α, ?_, ?_, ?_, s4, s5, ?_, trivial⟩, fun ρ1 vs h' hP e0 => ?_⟩
  · intro q hq
    cases hq
  · intro q hq
    cases hq
  · intro q hq
    cases hq
  · intro q hq2
    have hq2 : q ∈ [((0 : Nat), (.inr (.inr (0, (47, true))) : AT)), (1, .inr (.inr (1, (R, true))))] := hq2
    rcases List.mem_cons.mp hq2 with e | hq2
    · rw [e]
      exact ⟨x, x1, x2.1, Or.inr ⟨hp0, by decide, act_p⟩⟩
    · rcases List.mem_cons.mp hq2 with e | hq2
      · rw [e]
        exact ⟨y, y1, y2.1, Or.inr ⟨hq0, h0, by rw [act_b ht hp _ (by rw [hq]; exact h0) (by rw [hq]; exact hR)]; exact hq⟩⟩
      · cases hq2
  · obtain ⟨ht1, σ', α', p1, p2, p3, p4, p5, p6, p7⟩ := hP
    have p5 : (List.range 2).map α' = KA := p5
    have eN : α' 0 = α 0 := List.map_inj_left.mp (p5.trans s5.symm) 0 (by decide)
    have g2 := p1 (3, (0, 15120)) (List.mem_cons_self ..)
    have g2 : (0 : Int) ≤ σ' 3 ∧ σ' 3 ≤ 15120 := g2
    have g4 := (p3 _ (List.mem_cons_self ..)).2
    have g4 : h_r h' (α' 0) (t_kx σ' 0) = α' 2 ∧ t_rf ρ1 48 true (α' 2) := g4
    have g3 := (p3 _ (List.mem_cons_of_mem _ (List.mem_cons_self ..))).2
    have g3 : (h_i h' (α' 2) (t_kx σ' 5)).toInt = le_ev σ' (le_s 3) := g3
    rw [t_kxl (by decide), eN] at g4
    have e1 : α' 2 = h_r h (α 0) 0 := g4.1.symm.trans e0
    rw [t_kxl (by decide), le_sE, e1] at g3
    refine ⟨by show (h_i h' (h_r h (α 0) 0) 5).toInt ≤ 15120; rw [g3]; exact g2.2, fun ρ' hT' => ?_⟩
    cases vs with
    | cons _ _ => cases p7
    | nil => exact ⟨hT', σ, α, fun q hq => (by cases hq), fun q hq => (by cases hq), fun q hq => (by cases hq), s4, s5, fun q hq => (by cases hq), trivial⟩
end
section
-- A SMALL LOGIC OF ONE OBJECT'S FIELDS AND ROWS: by-hand runs told in whole numbers
def rg_f (R K : Nat) : Option FT := match c_sp[R]? with
  | some rs => if rs.2.2.1 = false then r_ft rs K else none
  | none => none
def rg_r (R : Nat) : Nat := match c_sp[R]? with
  | some r2 => if 20 ≤ r2.1.1 ∧ r2.1.1 < 30 then R else 0
  | none => 0
def rg_a (R K : Nat) : Nat := match rg_f R K with
  | some (.inr (.inr q)) => (match q.2 with
    | true => rg_r q.1
    | false => 0)
  | _ => 0
theorem rg_rS {R : Nat} (h : rg_r R ≠ 0) : rg_r R = R ∧ ∃ rs, c_sp[R]? = some rs ∧ 20 ≤ rs.1.1 ∧ rs.1.1 < 30 := by
  unfold rg_r at h ⊢
  split at h
  · next r2 h2 =>
    split at h
    · next hc => exact ⟨if_pos hc, r2, h2, hc⟩
    · exact absurd rfl h
  · exact absurd rfl h
theorem rg_aS {R K : Nat} (h : rg_a R K ≠ 0) : ∃ rs, c_sp[R]? = some rs ∧ rs.2.2.1 = false ∧ r_ft rs K = some (.inr (.inr (rg_a R K, true))) ∧ ∃ r2, c_sp[rg_a R K]? = some r2 ∧ 20 ≤ r2.1.1 ∧ r2.1.1 < 30 := by
  unfold rg_a at h ⊢
  split at h
  · next q hq =>
    obtain ⟨q1, q2⟩ := q
    cases q2 with
    | false => exact absurd rfl h
    | true =>
      obtain ⟨e1, rs2, e2, e3⟩ := rg_rS h
      unfold rg_f at hq
      split at hq
      · next rs hrs =>
        split at hq
        · next hb =>
          dsimp only
          rw [e1]
          exact ⟨rs, hrs, hb, hq, rs2, e2, e3⟩
        · cases hq
      · cases hq
  · exact absurd rfl h
-- rows of one object are apart
def rg_okb (R : Nat) : Bool := match c_sp[R]? with
  | some rs => decide (rs.1.1 < 11) && (List.range rs.2.2.2.length).all (fun K => (List.range rs.2.2.2.length).all (fun K' => Nat.beq (rg_a R K) 0 || (!(Nat.beq (rg_a R K) (rg_a R K')) || Nat.beq K K')))
  | none => false
theorem rg_len {R K : Nat} {rs : RS} (hs : c_sp[R]? = some rs) (h : rg_a R K ≠ 0) : K < rs.2.2.2.length := by
  obtain ⟨rs2, e1, e2, e3, -⟩ := rg_aS h
  rw [hs] at e1
  cases e1
  unfold r_ft at e3
  rw [e2] at e3
  exact (List.getElem?_eq_some_iff.mp e3).1
theorem rg_inj {R K K' : Nat} (ok : rg_okb R = true) (h : rg_a R K ≠ 0) (e : rg_a R K = rg_a R K') : K = K' := by
  have h' : rg_a R K' ≠ 0 := by rw [← e]; exact h
  unfold rg_okb at ok
  split at ok
  · next rs hs =>
    rw [Bool.and_eq_true] at ok
    have := List.all_eq_true.mp (List.all_eq_true.mp ok.2 K (List.mem_range.mpr (rg_len hs h))) K' (List.mem_range.mpr (rg_len hs h'))
    rw [Bool.or_eq_true, Bool.or_eq_true] at this
    rcases this with z | z | z
    · exact absurd (Nat.eq_of_beq_eq_true z) h
    · rw [e, Nat.beq_refl] at z
      cases z
    · exact Nat.eq_of_beq_eq_true z
  · cases ok
theorem rg_self {R K : Nat} (ok : rg_okb R = true) (h : rg_a R K ≠ 0) : rg_a R K ≠ R := by
  intro z
  obtain ⟨rs, e1, e2, e3, r2, f1, f2, f3⟩ := rg_aS h
  unfold rg_okb at ok
  split at ok
  · next rs3 hs =>
    rw [Bool.and_eq_true] at ok
    have := of_decide_eq_true ok.1
    rw [z, hs] at f1
    cases f1
    omega
  · cases ok
-- frames of runs that make nothing
def FS (ρ : Nat → Nat) (W : List (Nat × Nat)) (h h' : MH) : Prop := h'.1 = h.1 ∧ ∀ a, a < 16 + h_n h → h_k h' a = h_k h a ∧ ∀ k, ¬ t_W W (ρ a) k → h_i h' a k = h_i h a k ∧ h_l h' a k = h_l h a k ∧ h_r h' a k = h_r h a k
theorem FS.refl (ρ : Nat → Nat) (W : List (Nat × Nat)) (h : MH) : FS ρ W h h := ⟨rfl, fun _ _ => ⟨rfl, fun _ _ => ⟨rfl, rfl, rfl⟩⟩⟩
theorem FS.trans {ρ : Nat → Nat} {W : List (Nat × Nat)} {h h1 h2 : MH} (f : FS ρ W h h1) (g : FS ρ W h1 h2) : FS ρ W h h2 := by
  refine ⟨g.1.trans f.1, fun a ha => ?_⟩
  have ha1 : a < 16 + h_n h1 := by
    unfold h_n
    rw [f.1]
    exact ha
  obtain ⟨x1, x2⟩ := f.2 a ha
  obtain ⟨y1, y2⟩ := g.2 a ha1
  refine ⟨y1.trans x1, fun k hk => ?_⟩
  obtain ⟨x3, x4, x5⟩ := x2 k hk
  obtain ⟨y3, y4, y5⟩ := y2 k hk
  exact ⟨y3.trans x3, y4.trans x4, y5.trans x5⟩
theorem FS.ofFR {ρ : Nat → Nat} {W : List (Nat × Nat)} {h h' : MH} (f : FR ρ W h h') : FS ρ W h h' := ⟨f.1, fun a _ => ⟨f.2.1 a, fun k hk => f.2.2 a k hk⟩⟩
theorem FS.fq {ρ : Nat → Nat} {W : List (Nat × Nat)} {h h' : MH} (f : FS ρ W h h') : FQ ρ ρ W h h' := ⟨⟨by
  unfold h_n
  rw [f.1]
  exact Nat.le_refl _, fun _ => f.1⟩, fun _ _ => rfl, fun _ h1 h2 => absurd h1 h2, f.2⟩
def w_no2 (W : List (Nat × Nat)) : Bool := W.all (fun q => !(Nat.beq q.2 1002))
theorem FS.ofFQ {ρ ρ' : Nat → Nat} {W : List (Nat × Nat)} {h h' : MH} (hn : w_no2 W = true) (f : FQ ρ ρ' W h h') : ρ' = ρ ∧ FS ρ W h h' := by
  have no : ∀ R, (R, 1002) ∉ W := fun R z => by
    have := List.all_eq_true.mp hn _ z
    simp at this
  refine ⟨funext (fun a => ?_), f.1.2 (no _), f.2.2.2⟩
  by_cases h0 : ρ a = 0
  · by_cases h1 : ρ' a = 0
    · rw [h0, h1]
    · exact absurd (f.2.2.1 a h0 h1).2 (no _)
  · exact f.2.1 a h0
theorem FS.mono {ρ : Nat → Nat} {W1 W2 : List (Nat × Nat)} {h h' : MH} (hs : d_sub W1 W2 = true) (f : FS ρ W1 h h') : FS ρ W2 h h' := ⟨f.1, (FQ.mono hs f.fq).2.2.2⟩
theorem d_subT {W1 W2 W3 : List (Nat × Nat)} (a : d_sub W1 W2 = true) (b : d_sub W2 W3 = true) : d_sub W1 W3 = true := by
  refine List.all_eq_true.mpr (fun q hq => ?_)
  have x := List.all_eq_true.mp a q hq
  rw [Bool.or_eq_true, Bool.and_eq_true] at x ⊢
  rcases x with x | ⟨x1, x2⟩
  · have y := List.all_eq_true.mp b q (List.contains_iff_mem.mp x)
    rw [Bool.or_eq_true, Bool.and_eq_true] at y
    exact y
  · have y := List.all_eq_true.mp b _ (List.contains_iff_mem.mp x2)
    rw [Bool.or_eq_true, Bool.and_eq_true] at y
    rcases y with y | y
    · exact Or.inr ⟨x1, y⟩
    · exact Or.inr ⟨x1, y.2⟩
theorem d_subm {W1 W2 W3 : List (Nat × Nat)} (b : d_sub W2 W3 = true) (a : d_sub W1 W2 = true) : d_sub W1 W3 = true := d_subT a b
-- the object m of region R: its rows A, its fields F, their elements V (ints), G (longs)
def MX (R : Nat) (W : List (Nat × Nat)) (ρ : Nat → Nat) (m : Nat) (A : Nat → Nat) (h0 h : MH) (F : Nat → Int) (V : Nat → Nat → Int) (G : Nat → Nat → Int64) : Prop := (TH c_sp ρ h ∧ ρ m = R ∧ FS ρ W h0 h) ∧ (∀ K, (h_i h m K).toInt = F K) ∧ ∀ K, rg_a R K ≠ 0 → h_r h m K = A K ∧ ∀ j, (h_i h (A K) j).toInt = V K j ∧ h_l h (A K) j = G K j
section
variable {R : Nat} {W : List (Nat × Nat)} {ρ : Nat → Nat} {m : Nat} {A : Nat → Nat} {h0 h : MH} {F : Nat → Int} {V : Nat → Nat → Int} {G : Nat → Nat → Int64}
theorem MX.ar (M : MX R W ρ m A h0 h F V G) (hR : R ≠ 0) {K : Nat} (hK : rg_a R K ≠ 0) : ρ (A K) = rg_a R K ∧ A K < 16 + h_n h ∧ m < 16 + h_n h := by
  obtain ⟨rs, e1, e2, e3, -⟩ := rg_aS hK
  have := th_rf M.1.1 hR e1 M.1.2.1 e3 (fun z => by rw [e2] at z; cases z)
  rw [(M.2.2 K hK).1] at this
  exact ⟨this.2, (M.1.1.2 _ (by rw [this.2]; exact hK)).1, (M.1.1.2 _ (by rw [M.1.2.1]; exact hR)).1⟩
theorem MX.start (ht : TH c_sp ρ h) (hm : ρ m = R) : MX R W ρ m (h_r h m) h h (fun K => (h_i h m K).toInt) (fun K j => (h_i h (h_r h m K) j).toInt) (fun K j => h_l h (h_r h m K) j) := ⟨⟨ht, hm, FS.refl _ _ _⟩, fun _ => rfl, fun _ _ => ⟨rfl, fun _ => ⟨rfl, rfl⟩⟩⟩
theorem MX.again (M : MX R W ρ m A h0 h F V G) (W2 : List (Nat × Nat)) : MX R W2 ρ m A h h F V G := ⟨⟨M.1.1, M.1.2.1, FS.refl _ _ _⟩, M.2⟩
def mx_keeps (R : Nat) (W : List (Nat × Nat)) : Bool := W.all (fun q => !(Nat.beq q.1 R) || (!(Nat.beq q.2 1001) && Nat.beq (rg_a R q.2) 0))
-- behind a run that keeps a frame
theorem MX.fs {W' : List (Nat × Nat)} {h' : MH} (M : MX R W ρ m A h0 h F V G) (hR : R ≠ 0) (ht : TH c_sp ρ h') (f : FS ρ W' h h') (hs : d_sub W' W = true) (hk : mx_keeps R W' = true) : ∃ F' V' G', MX R W ρ m A h0 h' F' V' G' ∧ (∀ K, ¬ t_W W' R K → F' K = F K) ∧ ∀ K, rg_a R K ≠ 0 → (∀ j, ¬ t_W W' (rg_a R K) j) → V' K = V K ∧ G' K = G K := by
  refine ⟨fun K => (h_i h' m K).toInt, fun K j => (h_i h' (A K) j).toInt, fun K j => h_l h' (A K) j, ⟨⟨ht, M.1.2.1, M.1.2.2.trans (f.mono hs)⟩, fun _ => rfl, fun K hK => ⟨?_, fun _ => ⟨rfl, rfl⟩⟩⟩, fun K hw => ?_, fun K hK hw => ?_⟩
  · obtain ⟨a1, a2, a3⟩ := M.ar hR hK
    rw [← (M.2.2 K hK).1]
    refine ((f.2 m a3).2 K (fun z => ?_)).2.2
    rw [M.1.2.1] at z
    rcases z with z | z
    · have := List.all_eq_true.mp hk _ z
      rw [Bool.or_eq_true, Bool.and_eq_true] at this
      rcases this with t | t
      · simp at t
      · exact hK (Nat.eq_of_beq_eq_true t.2)
    · have := List.all_eq_true.mp hk _ z
      simp at this
  · have a3 := (M.1.1.2 m (by rw [M.1.2.1]; exact hR)).1
    show (h_i h' m K).toInt = F K
    rw [((f.2 m a3).2 K (by rw [M.1.2.1]; exact hw)).1]
    exact M.2.1 K
  · obtain ⟨a1, a2, a3⟩ := M.ar hR hK
    refine ⟨funext (fun j => ?_), funext (fun j => ?_)⟩
    · show (h_i h' (A K) j).toInt = V K j
      rw [((f.2 _ a2).2 j (by rw [a1]; exact hw j)).1]
      exact ((M.2.2 K hK).2 j).1
    · show h_l h' (A K) j = G K j
      rw [((f.2 _ a2).2 j (by rw [a1]; exact hw j)).2.1]
      exact ((M.2.2 K hK).2 j).2
theorem MX.w (M : MX R W ρ m A h0 h F V G) {W2 : List (Nat × Nat)} (hs : d_sub W W2 = true) : MX R W2 ρ m A h0 h F V G := ⟨⟨M.1.1, M.1.2.1, M.1.2.2.mono hs⟩, M.2⟩
-- an element just written
theorem m_uEE {K j : Nat} (V : Nat → Nat → Int) (f : Nat → Int) (x : Int) (_ : True) : m_u V K (m_u f j x) K j = x := by rw [m_uE, m_uE]
-- types
theorem MX.fi (M : MX R W ρ m A h0 h F V G) (hR : R ≠ 0) {rs : RS} (hs : c_sp[R]? = some rs) (hn : rs.2.2.1 = false) {k : Nat} {lo hi : Int} (hp : r_ft rs k = some (.inl (lo, hi))) : lo ≤ F k ∧ F k ≤ hi := by
  have := (t_spec M.1.1 hR hs M.1.2.1).2.2.2 k _ hp (fun z => by rw [hn] at z; cases z)
  rw [← M.2.1 k]
  exact this
theorem MX.vi (M : MX R W ρ m A h0 h F V G) (hR : R ≠ 0) {K R2 : Nat} (hr : rg_a R K = R2) (h2 : R2 ≠ 0) {rs2 : RS} (hs2 : c_sp[R2]? = some rs2) {L H kd : Nat} (hk : rs2.1 = (kd, (L, H))) {lo hi : Int} (j : Nat) (hp : r_ft rs2 j = some (.inl (lo, hi))) (hj : j < L) : lo ≤ V K j ∧ V K j ≤ hi := by
  have hK : rg_a R K ≠ 0 := by rw [hr]; exact h2
  obtain ⟨a1, -, -⟩ := M.ar hR hK
  rw [hr] at a1
  have c := t_spec M.1.1 h2 hs2 a1
  have c1 : L ≤ (h_k h (A K)).2 := by
    have c2 := c.2.1.1
    rw [hk] at c2
    exact c2
  rw [← ((M.2.2 K hK).2 j).1]
  exact c.2.2.2 j _ hp (fun _ => by omega)
end
theorem i_shlF : ∀ k : Fin 31, ((1 : Int32) <<< (Int32.ofInt (k.val : Int) &&& 31)).toInt = (2 : Int) ^ k.val := by decide +kernel
theorem i_shl {x y : Int32} {k : Nat} (hx : x.toInt = 1) (hy : y.toInt = (k : Int)) (hk : k < 31) : (x <<< (y &&& 31)).toInt = (2 : Int) ^ k := by
  have e1 : x = 1 := Int32.toInt_inj.mp (by rw [hx]; decide)
  have e2 : y = Int32.ofInt (k : Int) := by rw [← hy, Int32.ofInt_toInt]
  rw [e1, e2]
  exact i_shlF ⟨k, hk⟩
section
variable {i pc pc' : Nat} {lv : List (Nat × Value)} {st : List Value} {Q : Option Value → MH → Prop} {R : Nat} {W : List (Nat × Nat)} {ρ : Nat → Nat} {m : Nat} {A : Nat → Nat} {h0 h : MH} {F : Nat → Int} {V : Nat → Nat → Int} {G : Nat → Nat → Int64}
-- words
theorem hM_ic {n : Int} (a : m_at i pc = some (.iconst n, 1)) (hn : (Int32.ofInt n).toInt = n) (hp : pc + 1 = pc') (g : ∀ x : Int32, x.toInt = n → HJ i pc' lv (.int x :: st) h Q) : HJ i pc lv st h Q := hI_ic a hp (g _ hn)
theorem hM_bp {n : Int} (a : m_at i pc = some (.bipush n, 2)) (hn : (Int8.ofInt n).toInt32.toInt = n) (hp : pc + 2 = pc') (g : ∀ x : Int32, x.toInt = n → HJ i pc' lv (.int x :: st) h Q) : HJ i pc lv st h Q := hI_bp a hp (g _ hn)
theorem hM_sp {n : Int} (a : m_at i pc = some (.sipush n, 3)) (hn : (Int16.ofInt n).toInt32.toInt = n) (hp : pc + 3 = pc') (g : ∀ x : Int32, x.toInt = n → HJ i pc' lv (.int x :: st) h Q) : HJ i pc lv st h Q := hI_sp a hp (g _ hn)
theorem hM_jc {idx : Nat} {x : Int64} (a : m_at i pc = some (.ldc2_w idx, 3)) (hx : m_jc i idx = some x) (hp : pc + 3 = pc') (g : HJ i pc' lv (.long x :: st) h Q) : HJ i pc lv st h Q := by
  subst hp
  refine HJ.ex a (Or.inl rfl) ?_ g
  show (match m_jc i idx with
      | some x => m_go (pc + 3) lv (.long x :: st) h
      | none => none) = _
  rw [hx]
  rfl
theorem hM_add {x y : Int32} {zx zy : Int} (a : m_at i pc = some (.iadd, 1)) (hx : x.toInt = zx) (hy : y.toInt = zy) (b0 : -2147483648 ≤ zx + zy) (b1 : zx + zy ≤ 2147483647) (hp : pc + 1 = pc') (g : ∀ w : Int32, w.toInt = zx + zy → HJ i pc' lv (.int w :: st) h Q) : HJ i pc lv (.int y :: .int x :: st) h Q := hI_add a hp (g _ (by subst hx hy; exact i_add _ _ b0 b1))
theorem hM_sub {x y : Int32} {zx zy : Int} (a : m_at i pc = some (.isub, 1)) (hx : x.toInt = zx) (hy : y.toInt = zy) (b0 : -2147483648 ≤ zx - zy) (b1 : zx - zy ≤ 2147483647) (hp : pc + 1 = pc') (g : ∀ w : Int32, w.toInt = zx - zy → HJ i pc' lv (.int w :: st) h Q) : HJ i pc lv (.int y :: .int x :: st) h Q := hI_sub a hp (g _ (by subst hx hy; exact i_sub _ _ b0 b1))
theorem hM_addw {x y : Int32} (a : m_at i pc = some (.iadd, 1)) (hp : pc + 1 = pc') (g : ∀ (w : Int32) (z : Int), w.toInt = z → -2147483648 ≤ z → z ≤ 2147483647 → HJ i pc' lv (.int w :: st) h Q) : HJ i pc lv (.int y :: .int x :: st) h Q := hI_add a hp (g _ _ rfl (g_iT _).1 (g_iT _).2)
theorem hM_subw {x y : Int32} (a : m_at i pc = some (.isub, 1)) (hp : pc + 1 = pc') (g : ∀ (w : Int32) (z : Int), w.toInt = z → -2147483648 ≤ z → z ≤ 2147483647 → HJ i pc' lv (.int w :: st) h Q) : HJ i pc lv (.int y :: .int x :: st) h Q := hI_sub a hp (g _ _ rfl (g_iT _).1 (g_iT _).2)
theorem hM_mul {x y : Int32} {zx zy : Int} (a : m_at i pc = some (.imul, 1)) (hx : x.toInt = zx) (hy : y.toInt = zy) (b0 : -2147483648 ≤ zx * zy) (b1 : zx * zy ≤ 2147483647) (hp : pc + 1 = pc') (g : ∀ w : Int32, w.toInt = zx * zy → HJ i pc' lv (.int w :: st) h Q) : HJ i pc lv (.int y :: .int x :: st) h Q := hI_mul a hp (g _ (by subst hx hy; exact i_mul _ _ b0 b1))
theorem hM_i2b {x : Int32} {zx : Int} (a : m_at i pc = some (.i2b, 1)) (hx : x.toInt = zx) (hp : pc + 1 = pc') (g : ∀ (w : Int32) (z : Int), w.toInt = z → -128 ≤ z → z ≤ 127 → (-128 ≤ zx → zx ≤ 127 → z = zx) → HJ i pc' lv (.int w :: st) h Q) : HJ i pc lv (.int x :: st) h Q := hI_i2b a hp (g _ _ rfl (by
  rw [Int8.toInt_toInt32]
  exact Int8.le_toInt _) (by
  rw [Int8.toInt_toInt32]
  have := Int8.toInt_lt x.toInt8
  omega) (fun b0 b1 => by
  rw [i_byte x (by omega) (by omega), hx]))
theorem hM_shl {x y : Int32} {zy : Int} (a : m_at i pc = some (.ishl, 1)) (hx : x.toInt = 1) (hy : y.toInt = zy) (b0 : 0 ≤ zy) (b1 : zy < 31) (hp : pc + 1 = pc') (g : ∀ w : Int32, w.toInt = (2 : Int) ^ zy.toNat → HJ i pc' lv (.int w :: st) h Q) : HJ i pc lv (.int y :: .int x :: st) h Q := by
  subst hp
  exact HJ.ex a (Or.inl rfl) rfl (g _ (i_shl hx (by omega) (by omega)))
theorem hI_iand {x y : Int32} (a : m_at i pc = some (.iand, 1)) (hp : pc + 1 = pc') (g : HJ i pc' lv (.int (x &&& y) :: st) h Q) : HJ i pc lv (.int y :: .int x :: st) h Q := by
  subst hp
  exact HJ.ex a (Or.inl rfl) rfl g
theorem hM_iand {x y : Int32} (a : m_at i pc = some (.iand, 1)) (hp : pc + 1 = pc') (g : ∀ (w : Int32) (z : Int), w.toInt = z → -2147483648 ≤ z → z ≤ 2147483647 → HJ i pc' lv (.int w :: st) h Q) : HJ i pc lv (.int y :: .int x :: st) h Q := hI_iand a hp (g _ _ rfl (g_iT _).1 (g_iT _).2)
theorem hI_ior {x y : Int32} (a : m_at i pc = some (.ior, 1)) (hp : pc + 1 = pc') (g : HJ i pc' lv (.int (x ||| y) :: st) h Q) : HJ i pc lv (.int y :: .int x :: st) h Q := by
  subst hp
  exact HJ.ex a (Or.inl rfl) rfl g
theorem hM_ior {x y : Int32} (a : m_at i pc = some (.ior, 1)) (hp : pc + 1 = pc') (g : ∀ (w : Int32) (z : Int), w.toInt = z → -2147483648 ≤ z → z ≤ 2147483647 → HJ i pc' lv (.int w :: st) h Q) : HJ i pc lv (.int y :: .int x :: st) h Q := hI_ior a hp (g _ _ rfl (g_iT _).1 (g_iT _).2)
theorem hI_ixor {x y : Int32} (a : m_at i pc = some (.ixor, 1)) (hp : pc + 1 = pc') (g : HJ i pc' lv (.int (x ^^^ y) :: st) h Q) : HJ i pc lv (.int y :: .int x :: st) h Q := by
  subst hp
  exact HJ.ex a (Or.inl rfl) rfl g
theorem hM_ixor {x y : Int32} (a : m_at i pc = some (.ixor, 1)) (hp : pc + 1 = pc') (g : ∀ (w : Int32) (z : Int), w.toInt = z → -2147483648 ≤ z → z ≤ 2147483647 → HJ i pc' lv (.int w :: st) h Q) : HJ i pc lv (.int y :: .int x :: st) h Q := hI_ixor a hp (g _ _ rfl (g_iT _).1 (g_iT _).2)
theorem hI_ishl {x y : Int32} (a : m_at i pc = some (.ishl, 1)) (hp : pc + 1 = pc') (g : HJ i pc' lv (.int (x <<< (y &&& 31)) :: st) h Q) : HJ i pc lv (.int y :: .int x :: st) h Q := by
  subst hp
  exact HJ.ex a (Or.inl rfl) rfl g
theorem hM_ishl {x y : Int32} (a : m_at i pc = some (.ishl, 1)) (hp : pc + 1 = pc') (g : ∀ (w : Int32) (z : Int), w.toInt = z → -2147483648 ≤ z → z ≤ 2147483647 → HJ i pc' lv (.int w :: st) h Q) : HJ i pc lv (.int y :: .int x :: st) h Q := hI_ishl a hp (g _ _ rfl (g_iT _).1 (g_iT _).2)
theorem hI_ishr {x y : Int32} (a : m_at i pc = some (.ishr, 1)) (hp : pc + 1 = pc') (g : HJ i pc' lv (.int (x >>> (y &&& 31)) :: st) h Q) : HJ i pc lv (.int y :: .int x :: st) h Q := by
  subst hp
  exact HJ.ex a (Or.inl rfl) rfl g
theorem hM_ishr {x y : Int32} (a : m_at i pc = some (.ishr, 1)) (hp : pc + 1 = pc') (g : ∀ (w : Int32) (z : Int), w.toInt = z → -2147483648 ≤ z → z ≤ 2147483647 → HJ i pc' lv (.int w :: st) h Q) : HJ i pc lv (.int y :: .int x :: st) h Q := hI_ishr a hp (g _ _ rfl (g_iT _).1 (g_iT _).2)
theorem hM_div {x y : Int32} {zx zy : Int} (a : m_at i pc = some (.idiv, 1)) (hx : x.toInt = zx) (hy : y.toInt = zy) (b0 : 0 ≤ zx) (b1 : 0 < zy) (hp : pc + 1 = pc') (g : ∀ (w : Int32) (z : Int), w.toInt = z → 0 ≤ z → z ≤ zx → HJ i pc' lv (.int w :: st) h Q) : HJ i pc lv (.int y :: .int x :: st) h Q := by
  subst hp hx hy
  have yn : ¬ y = 0 := fun z => by
    rw [z] at b1
    exact absurd b1 (by decide)
  have e := i_div x y b0 b1
  refine HJ.ex a (Or.inl rfl) (by show (if y = 0 then none else _) = _; rw [if_neg yn]; rfl) (g (x / y) _ e ?_ ?_)
  · exact Int.ediv_nonneg b0 (by omega)
  · exact Int.ediv_le_self _ b0
theorem hM_rem {x y : Int32} {zx zy : Int} (a : m_at i pc = some (.irem, 1)) (hx : x.toInt = zx) (hy : y.toInt = zy) (b0 : 0 ≤ zx) (b1 : 0 < zy) (hp : pc + 1 = pc') (g : ∀ (w : Int32) (z : Int), w.toInt = z → 0 ≤ z → z < zy → HJ i pc' lv (.int w :: st) h Q) : HJ i pc lv (.int y :: .int x :: st) h Q := by
  subst hp hx hy
  have yn : ¬ y = 0 := fun z => by
    rw [z] at b1
    exact absurd b1 (by decide)
  have xT : -2147483648 ≤ x.toInt ∧ x.toInt ≤ 2147483647 := g_iT x
  have e := i_div x y b0 b1
  have d0 : 0 ≤ x.toInt / y.toInt := Int.ediv_nonneg b0 (by omega)
  have d1 := Int.emod_nonneg x.toInt (show y.toInt ≠ 0 by omega)
  have d2 := Int.emod_lt_of_pos x.toInt b1
  have d3 := Int.mul_ediv_add_emod x.toInt y.toInt
  have e2 : (x / y * y).toInt = y.toInt * (x.toInt / y.toInt) := by
    rw [i_mul _ _ (by rw [e, Int.mul_comm]; have := Int.mul_nonneg (show 0 ≤ y.toInt by omega) d0; omega) (by rw [e, Int.mul_comm]; omega), e, Int.mul_comm]
  have d4 : 0 ≤ y.toInt * (x.toInt / y.toInt) := Int.mul_nonneg (by omega) d0
  have e3 : (x - x / y * y).toInt = x.toInt % y.toInt := by
    rw [i_sub _ _ (by rw [e2]; omega) (by rw [e2]; omega), e2]
    omega
  exact HJ.ex a (Or.inl rfl) (by show (if y = 0 then none else _) = _; rw [if_neg yn]; rfl) (g _ _ e3 d1 d2)
-- longs
theorem hI_lor {x y : Int64} (a : m_at i pc = some (.lor, 1)) (hp : pc + 1 = pc') (g : HJ i pc' lv (.long (x ||| y) :: st) h Q) : HJ i pc lv (.long y :: .long x :: st) h Q := by
  subst hp
  exact HJ.ex a (Or.inl rfl) rfl g
theorem hI_land {x y : Int64} (a : m_at i pc = some (.land, 1)) (hp : pc + 1 = pc') (g : HJ i pc' lv (.long (x &&& y) :: st) h Q) : HJ i pc lv (.long y :: .long x :: st) h Q := by
  subst hp
  exact HJ.ex a (Or.inl rfl) rfl g
theorem hI_lxor {x y : Int64} (a : m_at i pc = some (.lxor, 1)) (hp : pc + 1 = pc') (g : HJ i pc' lv (.long (x ^^^ y) :: st) h Q) : HJ i pc lv (.long y :: .long x :: st) h Q := by
  subst hp
  exact HJ.ex a (Or.inl rfl) rfl g
theorem hM_lshl {x : Int64} {y : Int32} {zy : Int} (a : m_at i pc = some (.lshl, 1)) (hy : y.toInt = zy) (hp : pc + 1 = pc') (g : HJ i pc' lv (.long (x <<< ((Int32.ofInt zy).toInt64 &&& 63)) :: st) h Q) : HJ i pc lv (.int y :: .long x :: st) h Q := by
  subst hp hy
  rw [Int32.ofInt_toInt] at g
  exact HJ.ex a (Or.inl rfl) rfl g
theorem hI_lshr {x : Int64} {y : Int32} (a : m_at i pc = some (.lshr, 1)) (hp : pc + 1 = pc') (g : HJ i pc' lv (.long (x >>> (y.toInt64 &&& 63)) :: st) h Q) : HJ i pc lv (.int y :: .long x :: st) h Q := by
  subst hp
  exact HJ.ex a (Or.inl rfl) rfl g
theorem hM_lcmp {x y : Int64} (a : m_at i pc = some (.lcmp, 1)) (hp : pc + 1 = pc') (g : ∀ w : Int32, w.toInt = (lg_cmp x y).toInt → HJ i pc' lv (.int w :: st) h Q) : HJ i pc lv (.long y :: .long x :: st) h Q := by
  subst hp
  exact HJ.ex a (Or.inl rfl) rfl (g _ rfl)
theorem hM_i2l {x : Int32} {zx : Int} (a : m_at i pc = some (.i2l, 1)) (hx : x.toInt = zx) (hp : pc + 1 = pc') (g : HJ i pc' lv (.long (Int32.ofInt zx).toInt64 :: st) h Q) : HJ i pc lv (.int x :: st) h Q := by
  subst hp hx
  rw [Int32.ofInt_toInt] at g
  exact HJ.ex a (Or.inl rfl) rfl g
theorem hM_ceq {off : Int} {x y : Int32} {zx zy : Int} {t : Nat} (a : m_at i pc = some (.if_icmp .eq off, 3)) (hx : x.toInt = zx) (hy : y.toInt = zy) (ht : (pc : Int) + off = (t : Int)) (hp : pc + 3 = pc') (g1 : zx = zy → HJ i t lv st h Q) (g2 : zx ≠ zy → HJ i pc' lv st h Q) : HJ i pc lv (.int y :: .int x :: st) h Q := by
  subst hx hy
  exact hI_cmp a ht hp (fun z => g1 z) (fun z => g2 z)
theorem hM_zeq {off : Int} {x : Int32} {zx : Int} {t : Nat} (a : m_at i pc = some (.ifCond .eq off, 3)) (hx : x.toInt = zx) (ht : (pc : Int) + off = (t : Int)) (hp : pc + 3 = pc') (g1 : zx = 0 → HJ i t lv st h Q) (g2 : zx ≠ 0 → HJ i pc' lv st h Q) : HJ i pc lv (.int x :: st) h Q := by
  subst hx
  exact hI_if a ht hp (fun z => g1 z) (fun z => g2 z)

theorem hM_cne {off : Int} {x y : Int32} {zx zy : Int} {t : Nat} (a : m_at i pc = some (.if_icmp .ne off, 3)) (hx : x.toInt = zx) (hy : y.toInt = zy) (ht : (pc : Int) + off = (t : Int)) (hp : pc + 3 = pc') (g1 : zx ≠ zy → HJ i t lv st h Q) (g2 : zx = zy → HJ i pc' lv st h Q) : HJ i pc lv (.int y :: .int x :: st) h Q := by
  subst hx hy
  exact hI_cmp a ht hp (fun z => g1 z) (fun z => g2 (Classical.not_not.mp z))
theorem hM_zne {off : Int} {x : Int32} {zx : Int} {t : Nat} (a : m_at i pc = some (.ifCond .ne off, 3)) (hx : x.toInt = zx) (ht : (pc : Int) + off = (t : Int)) (hp : pc + 3 = pc') (g1 : zx ≠ 0 → HJ i t lv st h Q) (g2 : zx = 0 → HJ i pc' lv st h Q) : HJ i pc lv (.int x :: st) h Q := by
  subst hx
  exact hI_if a ht hp (fun z => g1 z) (fun z => g2 (Classical.not_not.mp z))

theorem hM_clt {off : Int} {x y : Int32} {zx zy : Int} {t : Nat} (a : m_at i pc = some (.if_icmp .lt off, 3)) (hx : x.toInt = zx) (hy : y.toInt = zy) (ht : (pc : Int) + off = (t : Int)) (hp : pc + 3 = pc') (g1 : zx < zy → HJ i t lv st h Q) (g2 : zy ≤ zx → HJ i pc' lv st h Q) : HJ i pc lv (.int y :: .int x :: st) h Q := by
  subst hx hy
  exact hI_cmp a ht hp (fun z => g1 z) (fun z => g2 (Int.not_lt.mp z))
theorem hM_zlt {off : Int} {x : Int32} {zx : Int} {t : Nat} (a : m_at i pc = some (.ifCond .lt off, 3)) (hx : x.toInt = zx) (ht : (pc : Int) + off = (t : Int)) (hp : pc + 3 = pc') (g1 : zx < 0 → HJ i t lv st h Q) (g2 : 0 ≤ zx → HJ i pc' lv st h Q) : HJ i pc lv (.int x :: st) h Q := by
  subst hx
  exact hI_if a ht hp (fun z => g1 z) (fun z => g2 (Int.not_lt.mp z))

theorem hM_cge {off : Int} {x y : Int32} {zx zy : Int} {t : Nat} (a : m_at i pc = some (.if_icmp .ge off, 3)) (hx : x.toInt = zx) (hy : y.toInt = zy) (ht : (pc : Int) + off = (t : Int)) (hp : pc + 3 = pc') (g1 : zy ≤ zx → HJ i t lv st h Q) (g2 : zx < zy → HJ i pc' lv st h Q) : HJ i pc lv (.int y :: .int x :: st) h Q := by
  subst hx hy
  exact hI_cmp a ht hp (fun z => g1 z) (fun z => g2 (Int.not_le.mp z))
theorem hM_zge {off : Int} {x : Int32} {zx : Int} {t : Nat} (a : m_at i pc = some (.ifCond .ge off, 3)) (hx : x.toInt = zx) (ht : (pc : Int) + off = (t : Int)) (hp : pc + 3 = pc') (g1 : 0 ≤ zx → HJ i t lv st h Q) (g2 : zx < 0 → HJ i pc' lv st h Q) : HJ i pc lv (.int x :: st) h Q := by
  subst hx
  exact hI_if a ht hp (fun z => g1 z) (fun z => g2 (Int.not_le.mp z))

theorem hM_cgt {off : Int} {x y : Int32} {zx zy : Int} {t : Nat} (a : m_at i pc = some (.if_icmp .gt off, 3)) (hx : x.toInt = zx) (hy : y.toInt = zy) (ht : (pc : Int) + off = (t : Int)) (hp : pc + 3 = pc') (g1 : zy < zx → HJ i t lv st h Q) (g2 : zx ≤ zy → HJ i pc' lv st h Q) : HJ i pc lv (.int y :: .int x :: st) h Q := by
  subst hx hy
  exact hI_cmp a ht hp (fun z => g1 z) (fun z => g2 (Int.not_lt.mp z))
theorem hM_zgt {off : Int} {x : Int32} {zx : Int} {t : Nat} (a : m_at i pc = some (.ifCond .gt off, 3)) (hx : x.toInt = zx) (ht : (pc : Int) + off = (t : Int)) (hp : pc + 3 = pc') (g1 : 0 < zx → HJ i t lv st h Q) (g2 : zx ≤ 0 → HJ i pc' lv st h Q) : HJ i pc lv (.int x :: st) h Q := by
  subst hx
  exact hI_if a ht hp (fun z => g1 z) (fun z => g2 (Int.not_lt.mp z))

theorem hM_cle {off : Int} {x y : Int32} {zx zy : Int} {t : Nat} (a : m_at i pc = some (.if_icmp .le off, 3)) (hx : x.toInt = zx) (hy : y.toInt = zy) (ht : (pc : Int) + off = (t : Int)) (hp : pc + 3 = pc') (g1 : zx ≤ zy → HJ i t lv st h Q) (g2 : zy < zx → HJ i pc' lv st h Q) : HJ i pc lv (.int y :: .int x :: st) h Q := by
  subst hx hy
  exact hI_cmp a ht hp (fun z => g1 z) (fun z => g2 (Int.not_le.mp z))
theorem hM_zle {off : Int} {x : Int32} {zx : Int} {t : Nat} (a : m_at i pc = some (.ifCond .le off, 3)) (hx : x.toInt = zx) (ht : (pc : Int) + off = (t : Int)) (hp : pc + 3 = pc') (g1 : zx ≤ 0 → HJ i t lv st h Q) (g2 : 0 < zx → HJ i pc' lv st h Q) : HJ i pc lv (.int x :: st) h Q := by
  subst hx
  exact hI_if a ht hp (fun z => g1 z) (fun z => g2 (Int.not_le.mp z))

-- locals
theorem hM_si {k : Fin 4} {x : Int32} (a : m_at i pc = some (.istore_n k, 1)) (hk : k.val < m_lc i) (hp : pc + 1 = pc') (g : ∀ lv', m_lk lv' k.val = some (.int x) → (∀ (q : Nat) (w : Value), q ≠ k.val → (w.category = 1 ∨ q + 1 ≠ k.val) → m_lk lv q = some w → m_lk lv' q = some w) → HJ i pc' lv' st h Q) : HJ i pc lv (.int x :: st) h Q := hI_is a hk hp (g _ (lk_s1 _ _) (fun _ _ h1 h2 e => lk_k1 e h1 h2))
theorem hM_si2 {k : Nat} {x : Int32} (a : m_at i pc = some (.istore k, 2)) (hk : k < m_lc i) (hp : pc + 2 = pc') (g : ∀ lv', m_lk lv' k = some (.int x) → (∀ (q : Nat) (w : Value), q ≠ k → (w.category = 1 ∨ q + 1 ≠ k) → m_lk lv q = some w → m_lk lv' q = some w) → HJ i pc' lv' st h Q) : HJ i pc lv (.int x :: st) h Q := hI_is2 a hk hp (g _ (lk_s1 _ _) (fun _ _ h1 h2 e => lk_k1 e h1 h2))
theorem hM_sl {k : Fin 4} {x : Int64} (a : m_at i pc = some (.lstore_n k, 1)) (hk : k.val + 1 < m_lc i) (hp : pc + 1 = pc') (g : ∀ lv', m_lk lv' k.val = some (.long x) → (∀ (q : Nat) (w : Value), q ≠ k.val → q ≠ k.val + 1 → (w.category = 1 ∨ q + 1 ≠ k.val) → m_lk lv q = some w → m_lk lv' q = some w) → HJ i pc' lv' st h Q) : HJ i pc lv (.long x :: st) h Q := by
  subst hp
  exact HJ.ex a (Or.inl rfl) (by exact if_pos hk) (g _ (lk_s2 _ _) (fun _ _ h1 h2 h3 e => lk_k2 e h1 h2 h3))
theorem hM_sl2 {k : Nat} {x : Int64} (a : m_at i pc = some (.lstore k, 2)) (hk : k + 1 < m_lc i) (hp : pc + 2 = pc') (g : ∀ lv', m_lk lv' k = some (.long x) → (∀ (q : Nat) (w : Value), q ≠ k → q ≠ k + 1 → (w.category = 1 ∨ q + 1 ≠ k) → m_lk lv q = some w → m_lk lv' q = some w) → HJ i pc' lv' st h Q) : HJ i pc lv (.long x :: st) h Q := by
  subst hp
  exact HJ.ex a (Or.inl rfl) (by exact if_pos hk) (g _ (lk_s2 _ _) (fun _ _ h1 h2 h3 e => lk_k2 e h1 h2 h3))
theorem hM_inc {k : Nat} {z : Int} {x : Int32} {zx : Int} (a : m_at i pc = some (.iinc k z, 3)) (e : m_lk lv k = some (.int x)) (hx : x.toInt = zx) (hz : (Int32.ofInt z).toInt = z) (b0 : -2147483648 ≤ zx + z) (b1 : zx + z ≤ 2147483647) (hk : k < m_lc i) (hp : pc + 3 = pc') (g : ∀ (lv' : List (Nat × Value)) (w : Int32), w.toInt = zx + z → m_lk lv' k = some (.int w) → (∀ (q : Nat) (w : Value), q ≠ k → (w.category = 1 ∨ q + 1 ≠ k) → m_lk lv q = some w → m_lk lv' q = some w) → HJ i pc' lv' st h Q) : HJ i pc lv st h Q := hI_inc a e hk hp (g _ _ (by rw [i_add _ _ (by rw [hx, hz]; exact b0) (by rw [hx, hz]; exact b1), hx, hz]) (lk_s1 _ _) (fun _ _ h1 h2 e => lk_k1 e h1 h2))
-- fields
theorem hM_gi {idx nest c k : Nat} {rs : RS} {lo hi : Int} (M : MX R W ρ m A h0 h F V G) (hR : R ≠ 0) (hs : c_sp[R]? = some rs) (hn : rs.2.2.1 = false) (hc : rs.1.1 = c + 1) (a : m_at i pc = some (.getfield idx, 3)) (hf : m_fl i idx = some (nest, c, k)) (ht : (m_ty c k).1 = 0) (hp0 : r_ft rs k = some (.inl (lo, hi))) (hp : pc + 3 = pc') (g : ∀ x : Int32, x.toInt = F k → lo ≤ F k → F k ≤ hi → HJ i pc' lv (.int x :: st) h Q) : HJ i pc lv (.ref m :: st) h Q := by
  obtain ⟨b0, b1⟩ := M.fi hR hs hn hp0
  exact hI_gi a hf ht ((t_spec M.1.1 hR hs M.1.2.1).1.trans hc) hp (g _ (M.2.1 k) b0 b1)
theorem hM_ga {idx nest c k : Nat} {rs : RS} (M : MX R W ρ m A h0 h F V G) (hR : R ≠ 0) (hs : c_sp[R]? = some rs) (hc : rs.1.1 = c + 1) (a : m_at i pc = some (.getfield idx, 3)) (hf : m_fl i idx = some (nest, c, k)) (ht : (m_ty c k).1 = 2) (hk : rg_a R k ≠ 0) (hp : pc + 3 = pc') (g : HJ i pc' lv (.ref (A k) :: st) h Q) : HJ i pc lv (.ref m :: st) h Q := by
  rw [← (M.2.2 k hk).1] at g
  exact hI_gr a hf ht ((t_spec M.1.1 hR hs M.1.2.1).1.trans hc) hp g
theorem hM_pi {idx nest c k : Nat} {rs : RS} {lo hi : Int} {x : Int32} {zx : Int} (M : MX R W ρ m A h0 h F V G) (hR : R ≠ 0) (ok : rg_okb R = true) (hs : c_sp[R]? = some rs) (hc : rs.1.1 = c + 1) (a : m_at i pc = some (.putfield idx, 3)) (hf : m_fl i idx = some (nest, c, k)) (ht : c < 10 ∧ k < m_nf c ∧ m_ty c k = (0, false)) (hp0 : r_ft rs k = some (.inl (lo, hi))) (hw : d_sub [(R, k)] W = true) (hx : x.toInt = zx) (b0 : lo ≤ zx) (b1 : zx ≤ hi) (hp : pc + 3 = pc') (g : ∀ (h' : MH) (F' : Nat → Int), F' = m_u F k zx → MX R W ρ m A h0 h' F' V G → HJ i pc' lv st h' Q) : HJ i pc lv (.int x :: .ref m :: st) h Q := by
  refine hI_pi a hf ht ((t_spec M.1.1 hR hs M.1.2.1).1.trans hc) hp (g _ _ rfl ?_)
  refine ⟨⟨s_siT M.1.1 hR hs M.1.2.1 hp0 (by show lo ≤ _; omega) (by show _ ≤ hi; omega), M.1.2.1, M.1.2.2.trans (FS.mono hw (FS.ofFR (s_siF M.1.2.1 (Or.inl (List.mem_singleton.mpr rfl)))))⟩, fun K => ?_, fun K hK => ⟨(M.2.2 K hK).1, fun j => ⟨?_, ((M.2.2 K hK).2 j).2⟩⟩⟩
  · rw [s_siI]
    by_cases e : K = k
    · rw [if_pos ⟨rfl, e⟩, e, m_uE, hx]
    · rw [if_neg (fun z => e z.2), m_uN _ _ _ _ e]
      exact M.2.1 K
  · rw [s_siI, if_neg (fun z => ?_)]
    · exact ((M.2.2 K hK).2 j).1
    · have := (M.ar hR hK).1
      rw [z.1, M.1.2.1] at this
      exact rg_self ok hK this.symm
-- rows
theorem hM_ia {K R2 L H : Nat} {lo hi : Int} {rs2 : RS} {j : Int32} {zj : Int} (M : MX R W ρ m A h0 h F V G) (hR : R ≠ 0) (hr : rg_a R K = R2) (h2 : R2 ≠ 0) (hs2 : c_sp[R2]? = some rs2) (hk : rs2.1 = (20, (L, H))) (hft : ∀ q, r_ft rs2 q = some (.inl (lo, hi))) (a : m_at i pc = some (.iaload, 1)) (hj : j.toInt = zj) (b0 : 0 ≤ zj) (b1 : zj < L) (hp : pc + 1 = pc') (g : ∀ x : Int32, x.toInt = V K zj.toNat → lo ≤ V K zj.toNat → V K zj.toNat ≤ hi → HJ i pc' lv (.int x :: st) h Q) : HJ i pc lv (.int j :: .ref (A K) :: st) h Q := by
  have hK : rg_a R K ≠ 0 := by rw [hr]; exact h2
  have a1 := (M.ar hR hK).1
  rw [hr] at a1
  have c := t_spec M.1.1 h2 hs2 a1
  have c0 := c.1
  have c1 := c.2.1.1
  rw [hk] at c0 c1
  obtain ⟨d0, d1⟩ := M.vi hR hr h2 hs2 hk zj.toNat (hft _) (by omega)
  refine hI_ia a c0 (by omega) (by show j.toInt < ((h_k h (A K)).2 : Int); have c1 : L ≤ (h_k h (A K)).2 := c1; omega) hp ?_
  rw [hj]
  exact g _ ((M.2.2 K hK).2 _).1 d0 d1
theorem hM_ba {K R2 L H kd : Nat} {lo hi : Int} {rs2 : RS} {j : Int32} {zj : Int} (M : MX R W ρ m A h0 h F V G) (hR : R ≠ 0) (hr : rg_a R K = R2) (h2 : R2 ≠ 0) (hs2 : c_sp[R2]? = some rs2) (hk : rs2.1 = (kd, (L, H))) (hkd : kd = 21 ∨ kd = 22) (hft : ∀ q, r_ft rs2 q = some (.inl (lo, hi))) (a : m_at i pc = some (.baload, 1)) (hj : j.toInt = zj) (b0 : 0 ≤ zj) (b1 : zj < L) (hp : pc + 1 = pc') (g : ∀ x : Int32, x.toInt = V K zj.toNat → lo ≤ V K zj.toNat → V K zj.toNat ≤ hi → HJ i pc' lv (.int x :: st) h Q) : HJ i pc lv (.int j :: .ref (A K) :: st) h Q := by
  have hK : rg_a R K ≠ 0 := by rw [hr]; exact h2
  have a1 := (M.ar hR hK).1
  rw [hr] at a1
  have c := t_spec M.1.1 h2 hs2 a1
  have c0 := c.1
  have c1 := c.2.1.1
  rw [hk] at c0 c1
  obtain ⟨d0, d1⟩ := M.vi hR hr h2 hs2 hk zj.toNat (hft _) (by omega)
  refine hI_ba a (by rw [c0]; exact hkd) (by omega) (by show j.toInt < ((h_k h (A K)).2 : Int); have c1 : L ≤ (h_k h (A K)).2 := c1; omega) hp ?_
  rw [hj]
  exact g _ ((M.2.2 K hK).2 _).1 d0 d1
theorem hI_la {j : Int32} {o : Nat} (a : m_at i pc = some (.laload, 1)) (hk : (h_k h o).1 = 25) (h0 : 0 ≤ j.toInt) (h1 : j.toInt < (h_k h o).2) (hp : pc + 1 = pc') (g : HJ i pc' lv (.long (h_l h o j.toInt.toNat) :: st) h Q) : HJ i pc lv (.int j :: .ref o :: st) h Q := by
  subst hp
  refine HJ.ex a (Or.inl rfl) ?_ g
  show (if (h_k h o).1 = 25 ∧ m_in j (h_k h o).2 = true then _ else none) = _
  rw [if_pos ⟨hk, m_inZ h0 h1⟩]
  rfl
theorem hM_la {K R2 L H : Nat} {rs2 : RS} {j : Int32} {zj : Int} (M : MX R W ρ m A h0 h F V G) (hR : R ≠ 0) (hr : rg_a R K = R2) (h2 : R2 ≠ 0) (hs2 : c_sp[R2]? = some rs2) (hk : rs2.1 = (25, (L, H))) (a : m_at i pc = some (.laload, 1)) (hj : j.toInt = zj) (b0 : 0 ≤ zj) (b1 : zj < L) (hp : pc + 1 = pc') (g : HJ i pc' lv (.long (G K zj.toNat) :: st) h Q) : HJ i pc lv (.int j :: .ref (A K) :: st) h Q := by
  have hK : rg_a R K ≠ 0 := by rw [hr]; exact h2
  have a1 := (M.ar hR hK).1
  rw [hr] at a1
  have c := t_spec M.1.1 h2 hs2 a1
  have c0 := c.1
  have c1 := c.2.1.1
  rw [hk] at c0 c1
  refine hI_la a c0 (by omega) (by show j.toInt < ((h_k h (A K)).2 : Int); have c1 : L ≤ (h_k h (A K)).2 := c1; omega) hp ?_
  rw [hj, ((M.2.2 K hK).2 _).2]
  exact g
-- an int into a row
theorem mx_si {K R2 j : Nat} {lo hi : Int} {rs2 : RS} {x : Int32} (M : MX R W ρ m A h0 h F V G) (hR : R ≠ 0) (ok : rg_okb R = true) (hr : rg_a R K = R2) (h2 : R2 ≠ 0) (hs2 : c_sp[R2]? = some rs2) (hft : r_ft rs2 j = some (.inl (lo, hi))) (hw : d_sub [(R2, 1001)] W = true) (b0 : lo ≤ x.toInt) (b1 : x.toInt ≤ hi) : MX R W ρ m A h0 (h_si h (A K) j x) F (m_u V K (m_u (V K) j x.toInt)) G := by
  have hK : rg_a R K ≠ 0 := by rw [hr]; exact h2
  have a1 := (M.ar hR hK).1
  have a2 := a1
  rw [hr] at a1
  refine ⟨⟨s_siT M.1.1 h2 hs2 a1 hft b0 b1, M.1.2.1, M.1.2.2.trans (FS.mono hw (FS.ofFR (s_siF a1 (Or.inr (List.mem_singleton.mpr rfl)))))⟩, fun K' => ?_, fun K' hK' => ⟨(M.2.2 K' hK').1, fun j' => ⟨?_, ((M.2.2 K' hK').2 j').2⟩⟩⟩
  · rw [s_siI, if_neg (fun z => ?_)]
    · exact M.2.1 K'
    · rw [← z.1, M.1.2.1] at a2
      exact rg_self ok hK a2.symm
  · rw [s_siI]
    by_cases e : K' = K
    · subst e
      rw [m_uE]
      by_cases e2 : j' = j
      · rw [if_pos ⟨rfl, e2⟩, e2, m_uE]
      · rw [if_neg (fun z => e2 z.2), m_uN _ _ _ _ e2]
        exact ((M.2.2 K' hK').2 j').1
    · rw [if_neg (fun z => ?_), m_uN _ _ _ _ e]
      · exact ((M.2.2 K' hK').2 j').1
      · have a3 := (M.ar hR hK').1
        rw [z.1, a2] at a3
        exact e (rg_inj ok hK a3).symm
theorem hM_is {K R2 L H : Nat} {lo hi : Int} {rs2 : RS} {j x : Int32} {zj zx : Int} (M : MX R W ρ m A h0 h F V G) (hR : R ≠ 0) (ok : rg_okb R = true) (hr : rg_a R K = R2) (h2 : R2 ≠ 0) (hs2 : c_sp[R2]? = some rs2) (hk : rs2.1 = (20, (L, H))) (hmd : rs2.2.1 = true) (hft : ∀ q, r_ft rs2 q = some (.inl (lo, hi))) (hw : d_sub [(R2, 1001)] W = true) (a : m_at i pc = some (.iastore, 1)) (hj : j.toInt = zj) (hx : x.toInt = zx) (b0 : 0 ≤ zj) (b1 : zj < L) (b2 : lo ≤ zx) (b3 : zx ≤ hi) (hp : pc + 1 = pc') (g : ∀ (h' : MH) (V' : Nat → Nat → Int), V' = m_u V K (m_u (V K) zj.toNat zx) → MX R W ρ m A h0 h' F V' G → HJ i pc' lv st h' Q) : HJ i pc lv (.int x :: .int j :: .ref (A K) :: st) h Q := by
  have hK : rg_a R K ≠ 0 := by rw [hr]; exact h2
  have a1 := (M.ar hR hK).1
  rw [hr] at a1
  have c := t_spec M.1.1 h2 hs2 a1
  have c0 := c.1
  have c1 := c.2.1.1
  rw [hk] at c0 c1
  refine hI_is_ a (c.2.2.1 hmd) c0 (by omega) (by show j.toInt < ((h_k h (A K)).2 : Int); have c1 : L ≤ (h_k h (A K)).2 := c1; omega) hp ?_
  rw [hj]
  exact g _ _ (by rw [← hx]) (mx_si M hR ok hr h2 hs2 (hft _) hw (by omega) (by omega))
theorem hM_bs {K R2 L H : Nat} {lo hi : Int} {rs2 : RS} {j x : Int32} {zj zx : Int} (M : MX R W ρ m A h0 h F V G) (hR : R ≠ 0) (ok : rg_okb R = true) (hr : rg_a R K = R2) (h2 : R2 ≠ 0) (hs2 : c_sp[R2]? = some rs2) (hk : rs2.1 = (21, (L, H))) (hmd : rs2.2.1 = true) (hft : ∀ q, r_ft rs2 q = some (.inl (lo, hi))) (hl : lo ≤ -128) (hh : 127 ≤ hi) (hw : d_sub [(R2, 1001)] W = true) (a : m_at i pc = some (.bastore, 1)) (hj : j.toInt = zj) (hx : x.toInt = zx) (b0 : 0 ≤ zj) (b1 : zj < L) (b2 : -128 ≤ zx) (b3 : zx ≤ 127) (hp : pc + 1 = pc') (g : ∀ (h' : MH) (V' : Nat → Nat → Int), V' = m_u V K (m_u (V K) zj.toNat zx) → MX R W ρ m A h0 h' F V' G → HJ i pc' lv st h' Q) : HJ i pc lv (.int x :: .int j :: .ref (A K) :: st) h Q := by
  have hK : rg_a R K ≠ 0 := by rw [hr]; exact h2
  have a1 := (M.ar hR hK).1
  rw [hr] at a1
  have c := t_spec M.1.1 h2 hs2 a1
  have c0 := c.1
  have c1 := c.2.1.1
  rw [hk] at c0 c1
  refine hI_bs_ a (c.2.2.1 hmd) c0 (by omega) (by show j.toInt < ((h_k h (A K)).2 : Int); have c1 : L ≤ (h_k h (A K)).2 := c1; omega) hp ?_
  rw [hj, i_byte x (by omega) (by omega)]
  exact g _ _ (by rw [← hx]) (mx_si M hR ok hr h2 hs2 (hft _) hw (by omega) (by omega))
theorem hI_zs_ {j x : Int32} {o : Nat} (a : m_at i pc = some (.bastore, 1)) (ho : 16 ≤ o) (hk : (h_k h o).1 = 22) (h0 : 0 ≤ j.toInt) (h1 : j.toInt < (h_k h o).2) (hp : pc + 1 = pc') (g : HJ i pc' lv st (h_si h o j.toInt.toNat (x &&& 1)) Q) : HJ i pc lv (.int x :: .int j :: .ref o :: st) h Q := by
  subst hp
  refine HJ.ex a (Or.inl rfl) ?_ g
  show (if 16 ≤ o ∧ (h_k h o).1 = 21 ∧ m_in j (h_k h o).2 = true then _ else if 16 ≤ o ∧ (h_k h o).1 = 22 ∧ m_in j (h_k h o).2 = true then _ else none) = _
  rw [if_neg (fun z => by rw [hk] at z; exact absurd z.2.1 (by decide)), if_pos ⟨ho, hk, m_inZ h0 h1⟩]
  rfl
theorem hM_zs {K R2 L H : Nat} {rs2 : RS} {j x : Int32} {zj zx : Int} (M : MX R W ρ m A h0 h F V G) (hR : R ≠ 0) (ok : rg_okb R = true) (hr : rg_a R K = R2) (h2 : R2 ≠ 0) (hs2 : c_sp[R2]? = some rs2) (hk : rs2.1 = (22, (L, H))) (hmd : rs2.2.1 = true) (hft : ∀ q, r_ft rs2 q = some (.inl (-2147483648, 2147483647))) (hw : d_sub [(R2, 1001)] W = true) (a : m_at i pc = some (.bastore, 1)) (hj : j.toInt = zj) (hx : x.toInt = zx) (b0 : 0 ≤ zj) (b1 : zj < L) (b2 : 0 ≤ zx) (b3 : zx ≤ 1) (hp : pc + 1 = pc') (g : ∀ (h' : MH) (V' : Nat → Nat → Int), V' = m_u V K (m_u (V K) zj.toNat zx) → MX R W ρ m A h0 h' F V' G → HJ i pc' lv st h' Q) : HJ i pc lv (.int x :: .int j :: .ref (A K) :: st) h Q := by
  have hK : rg_a R K ≠ 0 := by rw [hr]; exact h2
  have a1 := (M.ar hR hK).1
  rw [hr] at a1
  have c := t_spec M.1.1 h2 hs2 a1
  have c0 := c.1
  have c1 := c.2.1.1
  rw [hk] at c0 c1
  refine hI_zs_ a (c.2.2.1 hmd) c0 (by omega) (by show j.toInt < ((h_k h (A K)).2 : Int); have c1 : L ≤ (h_k h (A K)).2 := c1; omega) hp ?_
  rw [hj, i_bool x (by omega) (by omega)]
  exact g _ _ (by rw [← hx]) (mx_si M hR ok hr h2 hs2 (hft _) hw (by omega) (by omega))
-- a long into a row
theorem hI_ls_ {j : Int32} {x : Int64} {o : Nat} (a : m_at i pc = some (.lastore, 1)) (ho : 16 ≤ o) (hk : (h_k h o).1 = 25) (h0 : 0 ≤ j.toInt) (h1 : j.toInt < (h_k h o).2) (hp : pc + 1 = pc') (g : HJ i pc' lv st (h_sl h o j.toInt.toNat x) Q) : HJ i pc lv (.long x :: .int j :: .ref o :: st) h Q := by
  subst hp
  refine HJ.ex a (Or.inl rfl) ?_ g
  show (if 16 ≤ o ∧ (h_k h o).1 = 25 ∧ m_in j (h_k h o).2 = true then _ else none) = _
  rw [if_pos ⟨ho, hk, m_inZ h0 h1⟩]
  rfl
theorem sl_I (h : MH) (a k : Nat) (x : Int64) (b j : Nat) : h_l (h_sl h a k x) b j = if b = a ∧ j = k then x else h_l h b j := by
  show m_u (h_l h) a (m_u (h_l h a) k x) b j = _
  by_cases e : b = a
  · rw [e, m_uE]
    by_cases e2 : j = k
    · rw [if_pos ⟨rfl, e2⟩, e2, m_uE]
    · rw [if_neg (fun z => e2 z.2), m_uN _ _ _ _ e2]
  · rw [m_uN _ _ _ _ e, if_neg (fun z => e z.1)]
theorem sl_T {sp : List RS} {a k : Nat} {x : Int64} (ht : TH sp ρ h) : TH sp ρ (h_sl h a k x) := ⟨ht.1, fun b hb => by
  obtain ⟨q1, rs2, q2, q3, q4, q5, q6⟩ := ht.2 b hb
  refine ⟨q1, rs2, q2, q3, q4, q5, fun j ft hj hjl => ?_⟩
  have q7 := q6 j ft hj hjl
  cases ft with
  | inl p2 => exact q7
  | inr ft => cases ft with
    | inl u => trivial
    | inr q => exact q7⟩
theorem sl_F {a k R : Nat} {x : Int64} (ha : ρ a = R) (hW : t_W W R k) : FR ρ W h (h_sl h a k x) := by
  refine ⟨rfl, fun _ => rfl, fun b j hj => ⟨rfl, ?_, rfl⟩⟩
  rw [sl_I]
  by_cases e : b = a ∧ j = k
  · rw [e.1, e.2, ha] at hj
    exact absurd hW hj
  · rw [if_neg e]
theorem hM_ls {K R2 L H : Nat} {rs2 : RS} {j : Int32} {x : Int64} {zj : Int} (M : MX R W ρ m A h0 h F V G) (hR : R ≠ 0) (ok : rg_okb R = true) (hr : rg_a R K = R2) (h2 : R2 ≠ 0) (hs2 : c_sp[R2]? = some rs2) (hk : rs2.1 = (25, (L, H))) (hmd : rs2.2.1 = true) (hw : d_sub [(R2, 1001)] W = true) (a : m_at i pc = some (.lastore, 1)) (hj : j.toInt = zj) (b0 : 0 ≤ zj) (b1 : zj < L) (hp : pc + 1 = pc') (g : ∀ (h' : MH) (G' : Nat → Nat → Int64), G' = m_u G K (m_u (G K) zj.toNat x) → MX R W ρ m A h0 h' F V G' → HJ i pc' lv st h' Q) : HJ i pc lv (.long x :: .int j :: .ref (A K) :: st) h Q := by
  have hK : rg_a R K ≠ 0 := by rw [hr]; exact h2
  have a1 := (M.ar hR hK).1
  have a2 := a1
  rw [hr] at a1
  have c := t_spec M.1.1 h2 hs2 a1
  have c0 := c.1
  have c1 := c.2.1.1
  rw [hk] at c0 c1
  refine hI_ls_ a (c.2.2.1 hmd) c0 (by omega) (by show j.toInt < ((h_k h (A K)).2 : Int); have c1 : L ≤ (h_k h (A K)).2 := c1; omega) hp ?_
  rw [hj]
  refine g _ _ rfl ⟨⟨sl_T M.1.1, M.1.2.1, M.1.2.2.trans (FS.mono hw (FS.ofFR (sl_F a1 (Or.inr (List.mem_singleton.mpr rfl)))))⟩, M.2.1, fun K' hK' => ⟨(M.2.2 K' hK').1, fun j' => ⟨((M.2.2 K' hK').2 j').1, ?_⟩⟩⟩
  rw [sl_I]
  by_cases e : K' = K
  · subst e
    rw [m_uE]
    by_cases e2 : j' = zj.toNat
    · rw [if_pos ⟨rfl, e2⟩, e2, m_uE]
    · rw [if_neg (fun z => e2 z.2), m_uN _ _ _ _ e2]
      exact ((M.2.2 K' hK').2 j').2
  · rw [if_neg (fun z => ?_), m_uN _ _ _ _ e]
    · exact ((M.2.2 K' hK').2 j').2
    · have a3 := (M.ar hR hK').1
      rw [z.1, a2] at a3
      exact e (rg_inj ok hK a3).symm
-- stacks and ends
theorem hI_dup2 {v w : Value} (a : m_at i pc = some (.dup2, 1)) (hv : v.category = 1) (hw : w.category = 1) (hp : pc + 1 = pc') (g : HJ i pc' lv (v :: w :: v :: w :: st) h Q) : HJ i pc lv (v :: w :: st) h Q := by
  subst hp
  exact HJ.ex a (Or.inl rfl) (by show (if v.category = 1 ∧ w.category = 1 then _ else none) = _; rw [if_pos ⟨hv, hw⟩]; rfl) g
theorem hM_rb {x : Int32} {zx : Int} (a : m_at i pc = some (.ireturn, 1)) (hr : m_rt i = some .boolean) (hx : x.toInt = zx) (b0 : 0 ≤ zx) (b1 : zx ≤ 1) (q : Q (some (.int x)) h) : HJ i pc lv [.int x] h Q := hI_ri a (by
  rw [hr]
  exact decide_eq_true (i_bool x (by omega) (by omega))) q
-- calls
theorem hM_iv {idx nest j : Nat} {as r st0 : List Value} {rs : RS} (M : MX R W ρ m A h0 h F V G) (hR : R ≠ 0) (hs : c_sp[R]? = some rs) (hmd : rs.2.1 = true) (hkd : 0 < rs.1.1 ∧ rs.1.1 < 11) (a : m_at i pc = some (.invokevirtual idx, 3)) (hm : m_ml i idx = some (nest, j)) (hok : k_ok 1 i j = true) (hcl : m_cnm (rs.1.1 - 1) = (m_m j).2.1.cls) (hns : ¬ (m_m j).2.1.cls = "java/lang/String") (hna : m_na j = as.length) (hst : st0 = as.reverse ++ (.ref m :: r)) (hc : Nat.ble (m_cat r) 8 = true) (hca : Nat.ble (m_cat (.ref m :: as)) (m_lc j) = true) (hp : pc + 3 = pc') (g : HJ j 0 (lv_args 0 (.ref m :: as)) [] h (fun v h' => HJ i pc' lv (v.toList ++ r) h' Q)) : HJ i pc lv st0 h Q := by
  subst hp hst
  have c := t_spec M.1.1 hR hs M.1.2.1
  obtain ⟨⟨k1, k2, k3, k4⟩, k5⟩ := of_decide_eq_true hok
  have e1 : (as.reverse ++ Value.ref m :: r).drop (m_na j) = .ref m :: r := by
    rw [hna, ← List.length_reverse]
    exact List.drop_left
  have e2 : (as.reverse ++ Value.ref m :: r).take (m_na j) = as.reverse := by
    rw [hna, ← List.length_reverse]
    exact List.take_left
  refine HJ.call (j := j) (as := .ref m :: as) (rr := r) (pc' := pc + 3) ((m_stx a (Or.inl rfl)).trans ?_) (Nat.le_of_ble_eq_true hca) g
  show e_call 1 i idx pc lv _ h = _
  unfold e_call
  rw [hm]
  dsimp only
  rw [if_neg k1, if_neg k2, if_neg k3, if_neg k4, if_pos k5, if_neg (by decide), e1, e2]
  dsimp only
  rw [if_pos, List.reverse_reverse]
  refine ⟨by rw [hna, List.length_append, List.length_reverse, List.length_cons]; omega, Nat.le_of_ble_eq_true hc, ?_⟩
  rw [if_neg hns, c.1]
  exact ⟨hcl, c.2.2.1 hmd, hkd⟩
theorem hM_is0 {idx nest j : Nat} {as r st0 : List Value} (a : m_at i pc = some (.invokestatic idx, 3)) (hm : m_ml i idx = some (nest, j)) (hok : k_ok 0 i j = true) (hna : m_na j = as.length) (hst : st0 = as.reverse ++ r) (hc : Nat.ble (m_cat r) 8 = true) (hca : Nat.ble (m_cat as) (m_lc j) = true) (hp : pc + 3 = pc') (g : HJ j 0 (lv_args 0 as) [] h (fun v h' => HJ i pc' lv (v.toList ++ r) h' Q)) : HJ i pc lv st0 h Q := by
  subst hp hst
  obtain ⟨⟨k1, k2, k3, k4⟩, k5⟩ := of_decide_eq_true hok
  have e1 : (as.reverse ++ r).drop (m_na j) = r := by
    rw [hna, ← List.length_reverse]
    exact List.drop_left
  have e2 : (as.reverse ++ r).take (m_na j) = as.reverse := by
    rw [hna, ← List.length_reverse]
    exact List.take_left
  refine HJ.call (j := j) (as := as) (rr := r) (pc' := pc + 3) ((m_stx a (Or.inl rfl)).trans ?_) (Nat.le_of_ble_eq_true hca) g
  show e_call 0 i idx pc lv _ h = _
  unfold e_call
  rw [hm]
  dsimp only
  rw [if_neg k1, if_neg k2, if_neg k3, if_neg k4, if_pos k5, if_pos rfl, e1, e2, if_pos, List.reverse_reverse]
  exact ⟨by rw [hna, List.length_append, List.length_reverse]; omega, Nat.le_of_ble_eq_true hc⟩
-- a method that is proved by its summary
theorem HJ.ofV {j : Nat} {sm : SM} {K : List Int} {KA : List Nat} (v : V_ok c_sp c_CC c_PT j sm) (hC : CCok c_CC ρ) (hS : TS c_sp ρ K KA sm.1.1 lv [] h) (hT : ∀ t ∈ sm.1.2, c_PT t ρ h) (g : ∀ (x : Option Value) (h' : MH) (ρ' : Nat → Nat), FQ ρ ρ' sm.2.1 h h' → (∃ P ∈ sm.2.2, TS c_sp ρ' K KA P.1 [] x.toList h' ∧ ∀ t ∈ P.2, c_PT t ρ' h') → Q x h') : HJ j 0 lv [] h Q := by
  obtain ⟨n, x, h', ρ', g1, g2, g3⟩ := v ρ K KA lv h hC hS hT
  exact ⟨x, h', ⟨n, g1⟩, g x h' ρ' g2 g3⟩
end
theorem ok_49 : rg_okb 49 = true := by decide +kernel
end
section
-- THE RUN OF A ROW OF ACTS, PURE
-- + without words about room, exact where it fits
theorem hM_addx {i pc pc' : Nat} {lv : List (Nat × Value)} {st : List Value} {h : MH} {Q : Option Value → MH → Prop} {x y : Int32} {zx zy : Int} (a : m_at i pc = some (.iadd, 1)) (hx : x.toInt = zx) (hy : y.toInt = zy) (hp : pc + 1 = pc') (g : ∀ (w : Int32) (z : Int), w.toInt = z → -2147483648 ≤ z → z ≤ 2147483647 → (-2147483648 ≤ zx + zy → zx + zy ≤ 2147483647 → z = zx + zy) → HJ i pc' lv (.int w :: st) h Q) : HJ i pc lv (.int y :: .int x :: st) h Q := hI_add a hp (g _ _ rfl (g_iT _).1 (g_iT _).2 (fun b0 b1 => by subst hx hy; exact i_add _ _ b0 b1))
theorem rs_lk {F F2 : Nat → Int} {V V2 : Nat → Nat → Int} {S : PSt} {u w r : Int} (I : rs_of F V S) (sh : p_sh (F 17) (V 22) (V 23)) (u0 : 0 ≤ u) (u1 : u < F 17) (ru : V 22 u.toNat = r) (r5 : r ≤ 5) (f17 : F2 17 = F 17 + 1) (f19 : F2 19 = F 19 + 1) (v20 : V2 20 = m_u (V 20) (F 17).toNat (V 20 u.toNat)) (v21 : V2 21 = m_u (V 21) (F 17).toNat (V 21 u.toNat)) (v22 : V2 22 = m_u (V 22) (F 17).toNat (r + 1)) (b1 : ∀ j, j < 6 * (F 17).toNat → V2 23 j = V 23 j) (b2 : ∀ p : Nat, (p : Int) < r → V2 23 (6 * (F 17).toNat + p) = V 23 (6 * u.toNat + p)) (b3 : V2 23 (6 * (F 17).toNat + r.toNat) = w) : rs_of F2 V2 (ps_lk S u w) := by
  obtain ⟨i1, i2, i3, i4⟩ := I
  have en : (F 17).toNat = ps_n S := by omega
  rw [en] at v20 v21 v22 b1 b2 b3
  obtain ⟨t1, t2, y1, y2, k1, c1⟩ := i4 u.toNat (by omega)
  have r0 : 0 ≤ r := by
    have := (sh u.toNat (by omega)).1
    omega
  obtain ⟨n1, n2, n3, n4, n5⟩ := ps_lkN (S := S) (u := u) (d := w)
  unfold rs_of
  rw [n1, n2, n3, n4, n5]
  refine ⟨by omega, by omega, ⟨by omega, by omega⟩, fun v hv => ?_⟩
  by_cases e : v = ps_n S
  · rw [e, v20, v21, v22, m_uE, m_uE, m_uE, m_uE, m_uE, m_uE]
    refine ⟨t1, t2, y1, y2, by rw [k1, ru], fun q hq => ?_⟩
    rw [ps_lkC (by omega)]
    by_cases eq : (q : Int) < r
    · rw [if_pos (by rw [k1, ru]; exact eq), b2 q eq]
      exact c1 q (by rw [ru]; exact eq)
    · rw [if_neg (by rw [k1, ru]; exact eq), show q = r.toNat by omega, b3]
  · obtain ⟨a1, a2, a3, a4, a5, a6⟩ := i4 v (by omega)
    rw [v20, v21, v22, m_uN _ _ _ _ e, m_uN _ _ _ _ e, m_uN _ _ _ _ e, m_uN _ _ _ _ e, m_uN _ _ _ _ e, m_uN _ _ _ _ e]
    refine ⟨a1, a2, a3, a4, a5, fun q hq => ?_⟩
    have := (sh v (by omega)).1
    rw [ps_lkB (by omega), b1 _ (by omega)]
    exact a6 q hq
end
section
-- RAW PICTURES: by addresses, no regions (what the class's heaps and nodes want)
def RX (h0 h : MH) (H : Nat → Nat → Int) : Prop := h.1 = h0.1 ∧ h_k h = h_k h0 ∧ (h_r h = h_r h0 ∧ h_l h = h_l h0) ∧ ∀ a j, (h_i h a j).toInt = H a j
theorem RX.start (h : MH) : RX h h (fun a j => (h_i h a j).toInt) := ⟨rfl, rfl, ⟨rfl, rfl⟩, fun _ _ => rfl⟩
theorem RX.si {h0 h : MH} {H : Nat → Nat → Int} {a j : Nat} {x : Int32} {zx : Int} (M : RX h0 h H) (hx : x.toInt = zx) : RX h0 (h_si h a j x) (m_u H a (m_u (H a) j zx)) := ⟨M.1, M.2.1, M.2.2.1, fun b q => by
  show (m_u h.2.2.1 a (m_u (h.2.2.1 a) j x) b q).toInt = _
  by_cases e : b = a
  · subst e
    rw [m_uE, m_uE]
    by_cases f : q = j
    · rw [f, m_uE, m_uE]
      exact hx
    · rw [m_uN _ _ _ _ f, m_uN _ _ _ _ f]
      exact M.2.2.2 b q
  · rw [m_uN _ _ _ _ e, m_uN _ _ _ _ e]
    exact M.2.2.2 b q⟩
section
variable {i pc pc' : Nat} {lv : List (Nat × Value)} {st : List Value} {h0 h : MH} {H : Nat → Nat → Int} {Q : Option Value → MH → Prop}
theorem hR_gi {idx nest c k o : Nat} (M : RX h0 h H) (hk : (h_k h0 o).1 = c + 1) (a : m_at i pc = some (.getfield idx, 3)) (hf : m_fl i idx = some (nest, c, k)) (ht : (m_ty c k).1 = 0) (hp : pc + 3 = pc') (g : ∀ x : Int32, x.toInt = H o k → HJ i pc' lv (.int x :: st) h Q) : HJ i pc lv (.ref o :: st) h Q := hI_gi a hf ht (by rw [M.2.1]; exact hk) hp (g _ (M.2.2.2 o k))
theorem hR_gr {idx nest c k o : Nat} (M : RX h0 h H) (hk : (h_k h0 o).1 = c + 1) (a : m_at i pc = some (.getfield idx, 3)) (hf : m_fl i idx = some (nest, c, k)) (ht : (m_ty c k).1 = 2) (hp : pc + 3 = pc') (g : HJ i pc' lv (.ref (h_r h0 o k) :: st) h Q) : HJ i pc lv (.ref o :: st) h Q := hI_gr a hf ht (by rw [M.2.1]; exact hk) hp (by rw [M.2.2.1.1]; exact g)
theorem hR_pi {idx nest c k o : Nat} {x : Int32} {zx : Int} (M : RX h0 h H) (hk : (h_k h0 o).1 = c + 1) (a : m_at i pc = some (.putfield idx, 3)) (hf : m_fl i idx = some (nest, c, k)) (hc : c < 10 ∧ k < m_nf c ∧ m_ty c k = (0, false)) (hx : x.toInt = zx) (hp : pc + 3 = pc') (g : ∀ (h' : MH) (H' : Nat → Nat → Int), H' = m_u H o (m_u (H o) k zx) → RX h0 h' H' → HJ i pc' lv st h' Q) : HJ i pc lv (.int x :: .ref o :: st) h Q := hI_pi a hf hc (by rw [M.2.1]; exact hk) hp (g _ _ rfl (M.si hx))
theorem hR_ia {j : Int32} {zj : Int} {o : Nat} (M : RX h0 h H) (hk : (h_k h0 o).1 = 20) (hj : j.toInt = zj) (b0 : 0 ≤ zj) (b1 : zj < (h_k h0 o).2) (a : m_at i pc = some (.iaload, 1)) (hp : pc + 1 = pc') (g : ∀ x : Int32, x.toInt = H o zj.toNat → HJ i pc' lv (.int x :: st) h Q) : HJ i pc lv (.int j :: .ref o :: st) h Q := hI_ia a (by rw [M.2.1]; exact hk) (by omega) (by rw [M.2.1]; omega) hp (g _ (by rw [hj]; exact M.2.2.2 o _))
theorem hR_is {j x : Int32} {zj zx : Int} {o : Nat} (M : RX h0 h H) (ho : 16 ≤ o) (hk : (h_k h0 o).1 = 20) (hj : j.toInt = zj) (hx : x.toInt = zx) (b0 : 0 ≤ zj) (b1 : zj < (h_k h0 o).2) (a : m_at i pc = some (.iastore, 1)) (hp : pc + 1 = pc') (g : ∀ (h' : MH) (H' : Nat → Nat → Int), H' = m_u H o (m_u (H o) zj.toNat zx) → RX h0 h' H' → HJ i pc' lv st h' Q) : HJ i pc lv (.int x :: .int j :: .ref o :: st) h Q := hI_is_ a ho (by rw [M.2.1]; exact hk) (by omega) (by rw [M.2.1]; omega) hp (g _ _ (by rw [hj]) (M.si hx))
theorem hR_as {k : Fin 4} {x : Nat} (a : m_at i pc = some (.astore_n k, 1)) (hk : k.val < m_lc i) (hp : pc + 1 = pc') (g : ∀ lv', m_lk lv' k.val = some (.ref x) → (∀ (q : Nat) (w : Value), q ≠ k.val → (w.category = 1 ∨ q + 1 ≠ k.val) → m_lk lv q = some w → m_lk lv' q = some w) → HJ i pc' lv' st h Q) : HJ i pc lv (.ref x :: st) h Q := hI_as a hk hp (g _ (lk_s1 _ _) (fun _ _ h1 h2 e => lk_k1 e h1 h2))
theorem hR_as2 {k : Nat} {x : Nat} (a : m_at i pc = some (.astore k, 2)) (hk : k < m_lc i) (hp : pc + 2 = pc') (g : ∀ lv', m_lk lv' k = some (.ref x) → (∀ (q : Nat) (w : Value), q ≠ k → (w.category = 1 ∨ q + 1 ≠ k) → m_lk lv q = some w → m_lk lv' q = some w) → HJ i pc' lv' st h Q) : HJ i pc lv (.ref x :: st) h Q := hI_as2 a hk hp (g _ (lk_s1 _ _) (fun _ _ h1 h2 e => lk_k1 e h1 h2))
theorem hR_al {o : Nat} (M : RX h0 h H) (hk : 20 ≤ (h_k h0 o).1 ∧ (h_k h0 o).1 < 34) (hb : (h_k h0 o).2 < 2147483648) (a : m_at i pc = some (.arraylength, 1)) (hp : pc + 1 = pc') (g : ∀ x : Int32, x.toInt = ((h_k h0 o).2 : Int) → HJ i pc' lv (.int x :: st) h Q) : HJ i pc lv (.ref o :: st) h Q := hI_len a (by rw [M.2.1]; exact hk) hp (g _ (by rw [M.2.1]; exact Int32.toInt_ofNat_of_lt hb))
end
-- a call on an object of the class kc
theorem m_cR {i pc pc' idx nest j o kc : Nat} {lv : List (Nat × Value)} {as r st0 : List Value} {h : MH} (a : m_at i pc = some (.invokevirtual idx, 3)) (hm : m_ml i idx = some (nest, j)) (hok : k_ok 1 i j = true) (hna : m_na j = as.length) (hst : st0 = as.reverse ++ (.ref o :: r)) (hp : pc + 3 = pc') (hx : Nat.ble (m_cat r) 8 = true ∧ ¬ (m_m j).2.1.cls = "java/lang/String" ∧ m_cnm kc = (m_m j).2.1.cls) (kl : kc < 10) (o16 : 16 ≤ o) (ko : (h_k h o).1 = kc + 1) : m_st i pc lv st0 h = some (.inr (.inr (j, .ref o :: as, r, pc'))) := by
  subst hp hst
  obtain ⟨hc, hns, hcl⟩ := hx
  obtain ⟨⟨k1, k2, k3, k4⟩, k5⟩ := of_decide_eq_true hok
  have e1 : (as.reverse ++ Value.ref o :: r).drop (m_na j) = .ref o :: r := by
    rw [hna, ← List.length_reverse]
    exact List.drop_left
  have e2 : (as.reverse ++ Value.ref o :: r).take (m_na j) = as.reverse := by
    rw [hna, ← List.length_reverse]
    exact List.take_left
  refine (m_stx a (Or.inl rfl)).trans ?_
  show e_call 1 i idx pc lv _ h = _
  unfold e_call
  rw [hm]
  dsimp only
  rw [if_neg k1, if_neg k2, if_neg k3, if_neg k4, if_pos k5, if_neg (by decide), e1, e2]
  dsimp only
  rw [if_pos, List.reverse_reverse]
  refine ⟨by rw [hna, List.length_append, List.length_reverse, List.length_cons]; omega, Nat.le_of_ble_eq_true hc, ?_⟩
  rw [if_neg hns, ko]
  exact ⟨by rw [Nat.add_sub_cancel]; exact hcl, o16, by omega, by omega⟩
end
section
-- THE CLASS'S NODES AGAINST THE PURE STORE
def nd_ok (h0 : MH) (nd : Nat) (n : Nat) : Prop := ((h_k h0 nd).1 = 3 ∧ 16 ≤ nd) ∧ ((h_k h0 (h_r h0 nd 0)).1 = 20 ∧ 16 ≤ h_r h0 nd 0) ∧ 7 * (n : Int) ≤ ((h_k h0 (h_r h0 nd 0)).2 : Int)
section
variable {lv : List (Nat × Value)} {Q : Option Value → MH → Prop} {h0 h : MH} {H : Nat → Nat → Int}
theorem r_wt {nd : Nat} {v : Int} (M : RX h0 h H) (e0 : m_lk lv 0 = some (.ref nd)) {lx1 : Int32} (e1 : m_lk lv 1 = some (.int lx1)) (lq1 : lx1.toInt = v) (n0 : 0 ≤ H nd 5) (n1 : H nd 5 ≤ 16000) (hk0 : (h_k h0 nd).1 = 3) (ha0 : (h_k h0 (h_r h0 nd 0)).1 = 20) (hl0 : 7 * H nd 5 ≤ ((h_k h0 (h_r h0 nd 0)).2 : Int))
    (g0 : ∀ x1 : Int32, x1.toInt = (-1) → v < 0 → Q (some (.int x1)) h)
    (g1 : ∀ x3 : Int32, x3.toInt = (-1) → v ≥ 0 → v ≥ H nd 5 → Q (some (.int x3)) h)
    (g2 : ∀ x8 : Int32, x8.toInt = H (h_r h0 nd 0) ((v * 7) + 0).toNat → v ≥ 0 → v < H nd 5 → Q (some (.int x8)) h)
    : HJ 66 0 lv [] h Q := by
  refine hI_il (k := 1) rfl e1 rfl ?_ -- 0
  refine hM_zlt (off := 25) (t := 26) rfl lq1 (by decide) rfl (fun c1 => ?_) (fun c1 => ?_) -- 1
  · refine hM_ic (n := (-1)) rfl (by decide) rfl (fun x1 q1 => ?_) -- 26
    refine hI_ri rfl rfl ?_ -- 27
    exact g0 x1 q1 c1
  · refine hI_il (k := 1) rfl e1 rfl ?_ -- 4
    refine hI_al (k := 0) rfl e0 rfl ?_ -- 5
    refine hR_gi (c := 2) (k := 5) M hk0 rfl rfl rfl rfl (fun x2 q2 => ?_) -- 6
    have gb2 : -2147483648 ≤ H nd 5 ∧ H nd 5 ≤ 2147483647 := by rw [← q2]; exact g_iT _
    refine hM_cge (off := 17) (t := 26) rfl lq1 q2 (by decide) rfl (fun c9 => ?_) (fun c9 => ?_) -- 9
    · refine hM_ic (n := (-1)) rfl (by decide) rfl (fun x3 q3 => ?_) -- 26
      refine hI_ri rfl rfl ?_ -- 27
      exact g1 x3 q3 c1 c9
    · refine hI_al (k := 0) rfl e0 rfl ?_ -- 12
      refine hR_gr (c := 2) (k := 0) M hk0 rfl rfl rfl rfl ?_ -- 13
      refine hI_il (k := 1) rfl e1 rfl ?_ -- 16
      refine hM_bp (n := 7) rfl (by decide) rfl (fun x4 q4 => ?_) -- 17
      refine hM_mul rfl lq1 q4 (by omega) (by omega) rfl (fun x5 q5 => ?_) -- 19
      refine hM_ic (n := 0) rfl (by decide) rfl (fun x6 q6 => ?_) -- 20
      refine hM_add rfl q5 q6 (by omega) (by omega) rfl (fun x7 q7 => ?_) -- 21
      refine hR_ia M ha0 q7 (by omega) (by omega) rfl rfl (fun x8 q8 => ?_) -- 22
      have gb8 : -2147483648 ≤ H (h_r h0 nd 0) ((v * 7) + 0).toNat ∧ H (h_r h0 nd 0) ((v * 7) + 0).toNat ≤ 2147483647 := by rw [← q8]; exact g_iT _
      refine hI_go (pc' := 27) (off := 4) rfl (by decide) ?_ -- 23
      refine hI_ri rfl rfl ?_ -- 27
      exact g2 x8 q8 c1 c9
theorem r_rk {nd : Nat} {v : Int} (M : RX h0 h H) (e0 : m_lk lv 0 = some (.ref nd)) {lx1 : Int32} (e1 : m_lk lv 1 = some (.int lx1)) (lq1 : lx1.toInt = v) (n0 : 0 ≤ H nd 5) (n1 : H nd 5 ≤ 16000) (hk0 : (h_k h0 nd).1 = 3) (ha0 : (h_k h0 (h_r h0 nd 0)).1 = 20) (hl0 : 7 * H nd 5 ≤ ((h_k h0 (h_r h0 nd 0)).2 : Int))
    (g0 : ∀ x1 : Int32, x1.toInt = (-1) → v < 0 → Q (some (.int x1)) h)
    (g1 : ∀ x3 : Int32, x3.toInt = (-1) → v ≥ 0 → v ≥ H nd 5 → Q (some (.int x3)) h)
    (g2 : ∀ x8 : Int32, x8.toInt = H (h_r h0 nd 0) ((v * 7) + 1).toNat → v ≥ 0 → v < H nd 5 → Q (some (.int x8)) h)
    : HJ 67 0 lv [] h Q := by
  refine hI_il (k := 1) rfl e1 rfl ?_ -- 0
  refine hM_zlt (off := 25) (t := 26) rfl lq1 (by decide) rfl (fun c1 => ?_) (fun c1 => ?_) -- 1
  · refine hM_ic (n := (-1)) rfl (by decide) rfl (fun x1 q1 => ?_) -- 26
    refine hI_ri rfl rfl ?_ -- 27
    exact g0 x1 q1 c1
  · refine hI_il (k := 1) rfl e1 rfl ?_ -- 4
    refine hI_al (k := 0) rfl e0 rfl ?_ -- 5
    refine hR_gi (c := 2) (k := 5) M hk0 rfl rfl rfl rfl (fun x2 q2 => ?_) -- 6
    have gb2 : -2147483648 ≤ H nd 5 ∧ H nd 5 ≤ 2147483647 := by rw [← q2]; exact g_iT _
    refine hM_cge (off := 17) (t := 26) rfl lq1 q2 (by decide) rfl (fun c9 => ?_) (fun c9 => ?_) -- 9
    · refine hM_ic (n := (-1)) rfl (by decide) rfl (fun x3 q3 => ?_) -- 26
      refine hI_ri rfl rfl ?_ -- 27
      exact g1 x3 q3 c1 c9
    · refine hI_al (k := 0) rfl e0 rfl ?_ -- 12
      refine hR_gr (c := 2) (k := 0) M hk0 rfl rfl rfl rfl ?_ -- 13
      refine hI_il (k := 1) rfl e1 rfl ?_ -- 16
      refine hM_bp (n := 7) rfl (by decide) rfl (fun x4 q4 => ?_) -- 17
      refine hM_mul rfl lq1 q4 (by omega) (by omega) rfl (fun x5 q5 => ?_) -- 19
      refine hM_ic (n := 1) rfl (by decide) rfl (fun x6 q6 => ?_) -- 20
      refine hM_add rfl q5 q6 (by omega) (by omega) rfl (fun x7 q7 => ?_) -- 21
      refine hR_ia M ha0 q7 (by omega) (by omega) rfl rfl (fun x8 q8 => ?_) -- 22
      have gb8 : -2147483648 ≤ H (h_r h0 nd 0) ((v * 7) + 1).toNat ∧ H (h_r h0 nd 0) ((v * 7) + 1).toNat ≤ 2147483647 := by rw [← q8]; exact g_iT _
      refine hI_go (pc' := 27) (off := 4) rfl (by decide) ?_ -- 23
      refine hI_ri rfl rfl ?_ -- 27
      exact g2 x8 q8 c1 c9
theorem r_ch {nd : Nat} {v j : Int} (M : RX h0 h H) (e0 : m_lk lv 0 = some (.ref nd)) {lx1 : Int32} (e1 : m_lk lv 1 = some (.int lx1)) (lq1 : lx1.toInt = v) {lx2 : Int32} (e2 : m_lk lv 2 = some (.int lx2)) (lq2 : lx2.toInt = j) (n0 : 0 ≤ H nd 5) (n1 : H nd 5 ≤ 16000) (hk0 : (h_k h0 nd).1 = 3) (ha0 : (h_k h0 (h_r h0 nd 0)).1 = 20) (hl0 : 7 * H nd 5 ≤ ((h_k h0 (h_r h0 nd 0)).2 : Int))
    (g0 : ∀ x3 : Int32, x3.toInt = (-1) → ∀ lv2 : List (Nat × Value), v < 0 → Q (some (.int x3)) h)
    (g1 : ∀ x7 : Int32, x7.toInt = (-1) → ∀ lv6 : List (Nat × Value), v ≥ 0 → v ≥ H nd 5 → Q (some (.int x7)) h)
    (g2 : ∀ x10 : Int32, x10.toInt = (-1) → ∀ lv9 : List (Nat × Value), v ≥ 0 → v < H nd 5 → j < 0 → Q (some (.int x10)) h)
    (g3 : ∀ x14 : Int32, x14.toInt = (-1) → ∀ lv13 : List (Nat × Value), v ≥ 0 → v < H nd 5 → j ≥ 0 → j ≥ 5 → Q (some (.int x14)) h)
    (g4 : ∀ x22 : Int32, x22.toInt = H (h_r h0 nd 0) (((v * 7) + 2) + j).toNat → ∀ lv16 : List (Nat × Value), v ≥ 0 → v < H nd 5 → j ≥ 0 → j < 5 → Q (some (.int x22)) h)
    : HJ 69 0 lv [] h Q := by
  refine hI_il (k := 1) rfl e1 rfl ?_ -- 0
  refine hM_zlt (off := 24) (t := 25) rfl lq1 (by decide) rfl (fun c1 => ?_) (fun c1 => ?_) -- 1
  · refine hM_ic (n := 0) rfl (by decide) rfl (fun x1 q1 => ?_) -- 25
    refine hM_si (k := 3) rfl (by decide +kernel) rfl (fun lv2 e2_3 u2 => ?_) -- 26
    have e2_0 := u2 0 _ (by decide) (Or.inl rfl) e0
    have e2_1 := u2 1 _ (by decide) (Or.inl rfl) e1
    have e2_2 := u2 2 _ (by decide) (Or.inl rfl) e2
    refine hI_il (k := 3) rfl e2_3 rfl ?_ -- 27
    refine hM_zeq (off := 19) (t := 47) rfl q1 (by decide) rfl (fun c28 => ?_) (fun c28 => ?_) -- 28
    · refine hM_ic (n := (-1)) rfl (by decide) rfl (fun x3 q3 => ?_) -- 47
      refine hI_ri rfl rfl ?_ -- 48
      exact g0 x3 q3 lv2 c1
    · exfalso; omega
  · refine hI_il (k := 1) rfl e1 rfl ?_ -- 4
    refine hI_al (k := 0) rfl e0 rfl ?_ -- 5
    refine hR_gi (c := 2) (k := 5) M hk0 rfl rfl rfl rfl (fun x4 q4 => ?_) -- 6
    have gb4 : -2147483648 ≤ H nd 5 ∧ H nd 5 ≤ 2147483647 := by rw [← q4]; exact g_iT _
    refine hM_cge (off := 16) (t := 25) rfl lq1 q4 (by decide) rfl (fun c9 => ?_) (fun c9 => ?_) -- 9
    · refine hM_ic (n := 0) rfl (by decide) rfl (fun x5 q5 => ?_) -- 25
      refine hM_si (k := 3) rfl (by decide +kernel) rfl (fun lv6 e6_3 u6 => ?_) -- 26
      have e6_0 := u6 0 _ (by decide) (Or.inl rfl) e0
      have e6_1 := u6 1 _ (by decide) (Or.inl rfl) e1
      have e6_2 := u6 2 _ (by decide) (Or.inl rfl) e2
      refine hI_il (k := 3) rfl e6_3 rfl ?_ -- 27
      refine hM_zeq (off := 19) (t := 47) rfl q5 (by decide) rfl (fun c28 => ?_) (fun c28 => ?_) -- 28
      · refine hM_ic (n := (-1)) rfl (by decide) rfl (fun x7 q7 => ?_) -- 47
        refine hI_ri rfl rfl ?_ -- 48
        exact g1 x7 q7 lv6 c1 c9
      · exfalso; omega
    · refine hI_il (k := 2) rfl e2 rfl ?_ -- 12
      refine hM_zlt (off := 12) (t := 25) rfl lq2 (by decide) rfl (fun c13 => ?_) (fun c13 => ?_) -- 13
      · refine hM_ic (n := 0) rfl (by decide) rfl (fun x8 q8 => ?_) -- 25
        refine hM_si (k := 3) rfl (by decide +kernel) rfl (fun lv9 e9_3 u9 => ?_) -- 26
        have e9_0 := u9 0 _ (by decide) (Or.inl rfl) e0
        have e9_1 := u9 1 _ (by decide) (Or.inl rfl) e1
        have e9_2 := u9 2 _ (by decide) (Or.inl rfl) e2
        refine hI_il (k := 3) rfl e9_3 rfl ?_ -- 27
        refine hM_zeq (off := 19) (t := 47) rfl q8 (by decide) rfl (fun c28 => ?_) (fun c28 => ?_) -- 28
        · refine hM_ic (n := (-1)) rfl (by decide) rfl (fun x10 q10 => ?_) -- 47
          refine hI_ri rfl rfl ?_ -- 48
          exact g2 x10 q10 lv9 c1 c9 c13
        · exfalso; omega
      · refine hI_il (k := 2) rfl e2 rfl ?_ -- 16
        refine hM_ic (n := 5) rfl (by decide) rfl (fun x11 q11 => ?_) -- 17
        refine hM_cge (off := 7) (t := 25) rfl lq2 q11 (by decide) rfl (fun c18 => ?_) (fun c18 => ?_) -- 18
        · refine hM_ic (n := 0) rfl (by decide) rfl (fun x12 q12 => ?_) -- 25
          refine hM_si (k := 3) rfl (by decide +kernel) rfl (fun lv13 e13_3 u13 => ?_) -- 26
          have e13_0 := u13 0 _ (by decide) (Or.inl rfl) e0
          have e13_1 := u13 1 _ (by decide) (Or.inl rfl) e1
          have e13_2 := u13 2 _ (by decide) (Or.inl rfl) e2
          refine hI_il (k := 3) rfl e13_3 rfl ?_ -- 27
          refine hM_zeq (off := 19) (t := 47) rfl q12 (by decide) rfl (fun c28 => ?_) (fun c28 => ?_) -- 28
          · refine hM_ic (n := (-1)) rfl (by decide) rfl (fun x14 q14 => ?_) -- 47
            refine hI_ri rfl rfl ?_ -- 48
            exact g3 x14 q14 lv13 c1 c9 c13 c18
          · exfalso; omega
        · refine hM_ic (n := 1) rfl (by decide) rfl (fun x15 q15 => ?_) -- 21
          refine hI_go (pc' := 26) (off := 4) rfl (by decide) ?_ -- 22
          refine hM_si (k := 3) rfl (by decide +kernel) rfl (fun lv16 e16_3 u16 => ?_) -- 26
          have e16_0 := u16 0 _ (by decide) (Or.inl rfl) e0
          have e16_1 := u16 1 _ (by decide) (Or.inl rfl) e1
          have e16_2 := u16 2 _ (by decide) (Or.inl rfl) e2
          refine hI_il (k := 3) rfl e16_3 rfl ?_ -- 27
          refine hM_zeq (off := 19) (t := 47) rfl q15 (by decide) rfl (fun c28 => ?_) (fun c28 => ?_) -- 28
          · exfalso; omega
          · refine hI_al (k := 0) rfl e16_0 rfl ?_ -- 31
            refine hR_gr (c := 2) (k := 0) M hk0 rfl rfl rfl rfl ?_ -- 32
            refine hI_il (k := 1) rfl e16_1 rfl ?_ -- 35
            refine hM_bp (n := 7) rfl (by decide) rfl (fun x17 q17 => ?_) -- 36
            refine hM_mul rfl lq1 q17 (by omega) (by omega) rfl (fun x18 q18 => ?_) -- 38
            refine hM_ic (n := 2) rfl (by decide) rfl (fun x19 q19 => ?_) -- 39
            refine hM_add rfl q18 q19 (by omega) (by omega) rfl (fun x20 q20 => ?_) -- 40
            refine hI_il (k := 2) rfl e16_2 rfl ?_ -- 41
            refine hM_add rfl q20 lq2 (by omega) (by omega) rfl (fun x21 q21 => ?_) -- 42
            refine hR_ia M ha0 q21 (by omega) (by omega) rfl rfl (fun x22 q22 => ?_) -- 43
            have gb22 : -2147483648 ≤ H (h_r h0 nd 0) (((v * 7) + 2) + j).toNat ∧ H (h_r h0 nd 0) (((v * 7) + 2) + j).toNat ≤ 2147483647 := by rw [← q22]; exact g_iT _
            refine hI_go (pc' := 48) (off := 4) rfl (by decide) ?_ -- 44
            refine hI_ri rfl rfl ?_ -- 48
            exact g4 x22 q22 lv16 c1 c9 c13 c18
theorem r_sc {nd : Nat} {v j x : Int} (M : RX h0 h H) (e0 : m_lk lv 0 = some (.ref nd)) {lx1 : Int32} (e1 : m_lk lv 1 = some (.int lx1)) (lq1 : lx1.toInt = v) {lx2 : Int32} (e2 : m_lk lv 2 = some (.int lx2)) (lq2 : lx2.toInt = j) {lx3 : Int32} (e3 : m_lk lv 3 = some (.int lx3)) (lq3 : lx3.toInt = x) (n0 : 0 ≤ H nd 5) (n1 : H nd 5 ≤ 16000) (hk0 : (h_k h0 nd).1 = 3) (ha0 : (h_k h0 (h_r h0 nd 0)).1 = 20) (hl0 : 7 * H nd 5 ≤ ((h_k h0 (h_r h0 nd 0)).2 : Int)) (hs0 : 16 ≤ h_r h0 nd 0)
    (g0 : v < 0 → Q none h)
    (g1 : v ≥ 0 → v ≥ H nd 5 → Q none h)
    (g2 : v ≥ 0 → v < H nd 5 → j < 0 → Q none h)
    (g3 : v ≥ 0 → v < H nd 5 → j ≥ 0 → j ≥ 5 → Q none h)
    (g4 : ∀ h8 : MH, ∀ H8 : Nat → Nat → Int, H8 = m_u H (h_r h0 nd 0) (m_u (H (h_r h0 nd 0)) (((v * 7) + 2) + j).toNat (x)) → RX h0 h8 H8 → v ≥ 0 → v < H nd 5 → j ≥ 0 → j < 5 → Q none h8)
    : HJ 68 0 lv [] h Q := by
  refine hI_il (k := 1) rfl e1 rfl ?_ -- 0
  refine hM_zlt (off := 34) (t := 35) rfl lq1 (by decide) rfl (fun c1 => ?_) (fun c1 => ?_) -- 1
  · refine hI_rv rfl rfl ?_
    exact g0 c1
  · refine hI_il (k := 1) rfl e1 rfl ?_ -- 4
    refine hI_al (k := 0) rfl e0 rfl ?_ -- 5
    refine hR_gi (c := 2) (k := 5) M hk0 rfl rfl rfl rfl (fun x1 q1 => ?_) -- 6
    have gb1 : -2147483648 ≤ H nd 5 ∧ H nd 5 ≤ 2147483647 := by rw [← q1]; exact g_iT _
    refine hM_cge (off := 26) (t := 35) rfl lq1 q1 (by decide) rfl (fun c9 => ?_) (fun c9 => ?_) -- 9
    · refine hI_rv rfl rfl ?_
      exact g1 c1 c9
    · refine hI_il (k := 2) rfl e2 rfl ?_ -- 12
      refine hM_zlt (off := 22) (t := 35) rfl lq2 (by decide) rfl (fun c13 => ?_) (fun c13 => ?_) -- 13
      · refine hI_rv rfl rfl ?_
        exact g2 c1 c9 c13
      · refine hI_il (k := 2) rfl e2 rfl ?_ -- 16
        refine hM_ic (n := 5) rfl (by decide) rfl (fun x2 q2 => ?_) -- 17
        refine hM_cge (off := 17) (t := 35) rfl lq2 q2 (by decide) rfl (fun c18 => ?_) (fun c18 => ?_) -- 18
        · refine hI_rv rfl rfl ?_
          exact g3 c1 c9 c13 c18
        · refine hI_al (k := 0) rfl e0 rfl ?_ -- 21
          refine hR_gr (c := 2) (k := 0) M hk0 rfl rfl rfl rfl ?_ -- 22
          refine hI_il (k := 1) rfl e1 rfl ?_ -- 25
          refine hM_bp (n := 7) rfl (by decide) rfl (fun x3 q3 => ?_) -- 26
          refine hM_mul rfl lq1 q3 (by omega) (by omega) rfl (fun x4 q4 => ?_) -- 28
          refine hM_ic (n := 2) rfl (by decide) rfl (fun x5 q5 => ?_) -- 29
          refine hM_add rfl q4 q5 (by omega) (by omega) rfl (fun x6 q6 => ?_) -- 30
          refine hI_il (k := 2) rfl e2 rfl ?_ -- 31
          refine hM_add rfl q6 lq2 (by omega) (by omega) rfl (fun x7 q7 => ?_) -- 32
          refine hI_il (k := 3) rfl e3 rfl ?_ -- 33
          refine hR_is M hs0 ha0 q7 lq3 (by omega) (by omega) rfl rfl (fun h8 H8 f8 M8 => ?_) -- 34
          refine hI_rv rfl rfl ?_
          exact g4 h8 H8 f8 M8 c1 c9 c13 c18
theorem k_wt {nd : Nat} {S : PSt} {v : Int} {xv : Int32} (M : RX h0 h H) (ok : nd_ok h0 nd (ps_n S)) (I : cs_of h0 H nd S) (hv : xv.toInt = v) (v0 : 0 ≤ v) (v1 : v < (ps_n S : Int)) (g : ∀ x : Int32, x.toInt = 128 * ps_y S v.toNat + ps_t S v.toNat → Q (some (.int x)) h) : HJ 66 0 (lv_args 0 [.ref nd, .int xv]) [] h Q := by
  obtain ⟨i1, -, -, i4, i5⟩ := I
  refine r_wt M rfl rfl hv (by omega) (by omega) ok.1.1 ok.2.1.1 (by rw [i1]; exact ok.2.2) (fun _ _ c => absurd c (by omega)) (fun _ _ _ c => absurd c (by omega)) (fun x q _ _ => g x ?_)
  rw [q, show (v * 7 + 0).toNat = 7 * v.toNat by omega]
  exact (i5 v.toNat (by omega)).1
theorem k_rk {nd : Nat} {S : PSt} {v : Int} {xv : Int32} (M : RX h0 h H) (ok : nd_ok h0 nd (ps_n S)) (I : cs_of h0 H nd S) (hv : xv.toInt = v) (v0 : 0 ≤ v) (v1 : v < (ps_n S : Int)) (g : ∀ x : Int32, x.toInt = ps_k S v.toNat → Q (some (.int x)) h) : HJ 67 0 (lv_args 0 [.ref nd, .int xv]) [] h Q := by
  obtain ⟨i1, -, -, i4, i5⟩ := I
  refine r_rk M rfl rfl hv (by omega) (by omega) ok.1.1 ok.2.1.1 (by rw [i1]; exact ok.2.2) (fun _ _ c => absurd c (by omega)) (fun _ _ _ c => absurd c (by omega)) (fun x q _ _ => g x ?_)
  rw [q, show (v * 7 + 1).toNat = 7 * v.toNat + 1 by omega]
  exact (i5 v.toNat (by omega)).2.2.2.1
-- a child, by its rank
theorem k_ch {nd : Nat} {S : PSt} {v j : Int} {r : Nat} {xv xj : Int32} (M : RX h0 h H) (ok : nd_ok h0 nd (ps_n S)) (I : cs_of h0 H nd S) (hv : xv.toInt = v) (hj : xj.toInt = j) (v0 : 0 ≤ v) (v1 : v < (ps_n S : Int)) (r1 : (r : Int) < ps_k S v.toNat) (jr : j = ps_k S v.toNat - 1 - r) (g : ∀ x : Int32, x.toInt = ps_b S (6 * v.toNat + r) → Q (some (.int x)) h) : HJ 69 0 (lv_args 0 [.ref nd, .int xv, .int xj]) [] h Q := by
  obtain ⟨i1, -, -, i4, i5⟩ := I
  obtain ⟨-, -, -, -, k5, kb⟩ := i5 v.toNat (by omega)
  refine r_ch M rfl rfl hv rfl hj (by omega) (by omega) ok.1.1 ok.2.1.1 (by rw [i1]; exact ok.2.2) (fun _ _ _ c => absurd c (by omega)) (fun _ _ _ _ c => absurd c (by omega)) (fun _ _ _ _ _ c => absurd c (by omega)) (fun _ _ _ _ _ _ c => absurd c (by omega)) (fun x q _ _ _ _ _ => g x ?_)
  rw [q, ← kb r r1, show (v * 7 + 2 + j).toNat = 7 * v.toNat + 2 + ((ps_k S v.toNat).toNat - 1 - r) by omega]
theorem k_sc {nd : Nat} {v j x : Int} {xv xj xx : Int32} (M : RX h0 h H) (ok : nd_ok h0 nd (H nd 5).toNat) (n0 : 0 ≤ H nd 5) (n1 : H nd 5 ≤ 16000) (hv : xv.toInt = v) (hj : xj.toInt = j) (hx : xx.toInt = x) (v0 : 0 ≤ v) (v1 : v < H nd 5) (j0 : 0 ≤ j) (j1 : j < 5) (g : ∀ (h' : MH) (H' : Nat → Nat → Int), H' = m_u H (h_r h0 nd 0) (m_u (H (h_r h0 nd 0)) (7 * v.toNat + 2 + j.toNat) x) → RX h0 h' H' → Q none h') : HJ 68 0 (lv_args 0 [.ref nd, .int xv, .int xj, .int xx]) [] h Q := by
  refine r_sc M rfl rfl hv rfl hj rfl hx n0 n1 ok.1.1 ok.2.1.1 (by have := ok.2.2; omega) ok.2.1.2 (fun c => absurd c (by omega)) (fun _ c => absurd c (by omega)) (fun _ _ c => absurd c (by omega)) (fun _ _ _ c => absurd c (by omega)) (fun h8 H8 f8 M8 _ _ _ _ => g h8 H8 ?_ M8)
  rw [f8, show (v * 7 + 2 + j).toNat = 7 * v.toNat + 2 + j.toNat by omega]
-- the least root's rank
theorem r_lr0 {nd hp : Nat} (M : RX h0 h H) (e0 : m_lk lv 0 = some (.ref nd)) (e1 : m_lk lv 1 = some (.ref hp)) 
    (g0 : ∀ x1 : Int32, x1.toInt = (-1) → ∀ x3 : Int32, x3.toInt = 0 → ∀ lv4 : List (Nat × Value), m_lk lv4 0 = some (.ref nd) → m_lk lv4 1 = some (.ref hp) → m_lk lv4 2 = some (.int x1) → m_lk lv4 3 = some (.int x3) → HJ 72 4 lv4 [] h Q)
    : HJ 72 0 lv [] h Q := by
  refine hM_ic (n := (-1)) rfl (by decide) rfl (fun x1 q1 => ?_) -- 0
  refine hM_si (k := 2) rfl (by decide +kernel) rfl (fun lv2 e2_2 u2 => ?_) -- 1
  have e2_0 := u2 0 _ (by decide) (Or.inl rfl) e0
  have e2_1 := u2 1 _ (by decide) (Or.inl rfl) e1
  refine hM_ic (n := 0) rfl (by decide) rfl (fun x3 q3 => ?_) -- 2
  refine hM_si (k := 3) rfl (by decide +kernel) rfl (fun lv4 e4_3 u4 => ?_) -- 3
  have e4_0 := u4 0 _ (by decide) (Or.inl rfl) e2_0
  have e4_1 := u4 1 _ (by decide) (Or.inl rfl) e2_1
  have e4_2 := u4 2 _ (by decide) (Or.inl rfl) e2_2
  exact g0 x1 q1 x3 q3 lv4 e4_0 e4_1 e4_2 e4_3
theorem r_lr4 {nd hp : Nat} {b r : Int} (M : RX h0 h H) (e0 : m_lk lv 0 = some (.ref nd)) (e1 : m_lk lv 1 = some (.ref hp)) {lx2 : Int32} (e2 : m_lk lv 2 = some (.int lx2)) (lq2 : lx2.toInt = b) {lx3 : Int32} (e3 : m_lk lv 3 = some (.int lx3)) (lq3 : lx3.toInt = r) (r0 : 0 ≤ r) (b0 : -1 ≤ b) (b1 : b ≤ 5) (ha0 : (h_k h0 hp).1 = 20) (hl0 : 6 ≤ ((h_k h0 hp).2 : Int)) (hs0 : 16 ≤ nd) (hk0 : (h_k h0 nd).1 = 3)
    (g0 : r ≥ 6 → Q (some (.int lx2)) h)
    (g1 : r < 6 → H hp (r).toNat = (-1) → HJ 72 41 lv [] h Q)
    (g2 : r < 6 → H hp (r).toNat ≠ (-1) → b = (-1) → HJ 72 39 lv [] h Q)
    (g3 : ∀ x5 : Int32, x5.toInt = H hp (r).toNat → r < 6 → H hp (r).toNat ≠ (-1) → b ≠ (-1) → HJ 66 0 (lv_args 0 [.ref nd, .int x5]) [] h (fun v h' => HJ 72 29 lv (v.toList ++ []) h' Q))
    : HJ 72 4 lv [] h Q := by
  refine hI_il (k := 3) rfl e3 rfl ?_ -- 4
  refine hM_bp (n := 6) rfl (by decide) rfl (fun x1 q1 => ?_) -- 5
  refine hM_cge (off := 40) (t := 47) rfl lq3 q1 (by decide) rfl (fun c7 => ?_) (fun c7 => ?_) -- 7
  · refine hI_il (k := 2) rfl e2 rfl ?_ -- 47
    refine hI_ri rfl rfl ?_ -- 48
    exact g0 c7
  · refine hI_al (k := 1) rfl e1 rfl ?_ -- 10
    refine hI_il (k := 3) rfl e3 rfl ?_ -- 11
    refine hR_ia M ha0 lq3 (by omega) (by omega) rfl rfl (fun x2 q2 => ?_) -- 12
    have gb2 : -2147483648 ≤ H hp (r).toNat ∧ H hp (r).toNat ≤ 2147483647 := by rw [← q2]; exact g_iT _
    refine hM_ic (n := (-1)) rfl (by decide) rfl (fun x3 q3 => ?_) -- 13
    refine hM_ceq (off := 27) (t := 41) rfl q2 q3 (by decide) rfl (fun c14 => ?_) (fun c14 => ?_) -- 14
    · exact g1 c7 c14
    · refine hI_il (k := 2) rfl e2 rfl ?_ -- 17
      refine hM_ic (n := (-1)) rfl (by decide) rfl (fun x4 q4 => ?_) -- 18
      refine hM_ceq (off := 20) (t := 39) rfl lq2 q4 (by decide) rfl (fun c19 => ?_) (fun c19 => ?_) -- 19
      · exact g2 c7 c14 c19
      · refine hI_al (k := 0) rfl e0 rfl ?_ -- 22
        refine hI_al (k := 1) rfl e1 rfl ?_ -- 23
        refine hI_il (k := 3) rfl e3 rfl ?_ -- 24
        refine hR_ia M ha0 lq3 (by omega) (by omega) rfl rfl (fun x5 q5 => ?_) -- 25
        have gb5 : -2147483648 ≤ H hp (r).toNat ∧ H hp (r).toNat ≤ 2147483647 := by rw [← q5]; exact g_iT _
        refine HJ.call (j := 66) (as := [.ref nd, .int x5]) (rr := []) (pc' := 29) (m_cR (kc := 2) rfl rfl (by decide +kernel) rfl rfl rfl ⟨rfl, by decide +kernel, by decide +kernel⟩ (by decide) hs0 (by rw [M.2.1]; exact hk0)) (by show 2 ≤ m_lc 66; decide +kernel) ?_ -- 26
        exact g3 x5 q5 c7 c14 c19
theorem r_lr29 {nd hp : Nat} {b r w : Int} (M : RX h0 h H) (e0 : m_lk lv 0 = some (.ref nd)) (e1 : m_lk lv 1 = some (.ref hp)) {lx2 : Int32} (e2 : m_lk lv 2 = some (.int lx2)) (lq2 : lx2.toInt = b) {lx3 : Int32} (e3 : m_lk lv 3 = some (.int lx3)) (lq3 : lx3.toInt = r) {sx0 : Int32} (sq0 : sx0.toInt = w) (b0 : 0 ≤ b) (b1 : b ≤ 5) (ha0 : (h_k h0 hp).1 = 20) (hl0 : 6 ≤ ((h_k h0 hp).2 : Int)) (hs0 : 16 ≤ nd) (hk0 : (h_k h0 nd).1 = 3)
    (g0 : ∀ x1 : Int32, x1.toInt = H hp (b).toNat → HJ 66 0 (lv_args 0 [.ref nd, .int x1]) [] h (fun v h' => HJ 72 36 lv (v.toList ++ [.int sx0]) h' Q))
    : HJ 72 29 lv [.int sx0] h Q := by
  refine hI_al (k := 0) rfl e0 rfl ?_ -- 29
  refine hI_al (k := 1) rfl e1 rfl ?_ -- 30
  refine hI_il (k := 2) rfl e2 rfl ?_ -- 31
  refine hR_ia M ha0 lq2 (by omega) (by omega) rfl rfl (fun x1 q1 => ?_) -- 32
  have gb1 : -2147483648 ≤ H hp (b).toNat ∧ H hp (b).toNat ≤ 2147483647 := by rw [← q1]; exact g_iT _
  refine HJ.call (j := 66) (as := [.ref nd, .int x1]) (rr := [.int sx0]) (pc' := 36) (m_cR (kc := 2) rfl rfl (by decide +kernel) rfl rfl rfl ⟨rfl, by decide +kernel, by decide +kernel⟩ (by decide) hs0 (by rw [M.2.1]; exact hk0)) (by show 2 ≤ m_lc 66; decide +kernel) ?_ -- 33
  exact g0 x1 q1
theorem r_lr36 {nd hp : Nat} {b r w u : Int} (M : RX h0 h H) (e0 : m_lk lv 0 = some (.ref nd)) (e1 : m_lk lv 1 = some (.ref hp)) {lx2 : Int32} (e2 : m_lk lv 2 = some (.int lx2)) (lq2 : lx2.toInt = b) {lx3 : Int32} (e3 : m_lk lv 3 = some (.int lx3)) (lq3 : lx3.toInt = r) {sx0 : Int32} (sq0 : sx0.toInt = w) {sx1 : Int32} (sq1 : sx1.toInt = u) 
    (g0 : w ≥ u → HJ 72 41 lv [] h Q)
    (g1 : w < u → HJ 72 39 lv [] h Q)
    : HJ 72 36 lv [.int sx1, .int sx0] h Q := by
  refine hM_cge (off := 5) (t := 41) rfl sq0 sq1 (by decide) rfl (fun c36 => ?_) (fun c36 => ?_) -- 36
  · exact g0 c36
  · exact g1 c36
theorem r_lr39 {nd hp : Nat} {b r : Int} (M : RX h0 h H) (e0 : m_lk lv 0 = some (.ref nd)) (e1 : m_lk lv 1 = some (.ref hp)) {lx2 : Int32} (e2 : m_lk lv 2 = some (.int lx2)) (lq2 : lx2.toInt = b) {lx3 : Int32} (e3 : m_lk lv 3 = some (.int lx3)) (lq3 : lx3.toInt = r) (r0 : 0 ≤ r) (r1 : r ≤ 5)
    (g0 : ∀ x2 : Int32, x2.toInt = r + 1 → ∀ lv2 : List (Nat × Value), m_lk lv2 0 = some (.ref nd) → m_lk lv2 1 = some (.ref hp) → m_lk lv2 2 = some (.int lx3) → m_lk lv2 3 = some (.int x2) → HJ 72 4 lv2 [] h Q)
    : HJ 72 39 lv [] h Q := by
  refine hI_il (k := 3) rfl e3 rfl ?_ -- 39
  refine hM_si (k := 2) rfl (by decide +kernel) rfl (fun lv1 e1_2 u1 => ?_) -- 40
  have e1_0 := u1 0 _ (by decide) (Or.inl rfl) e0
  have e1_1 := u1 1 _ (by decide) (Or.inl rfl) e1
  have e1_3 := u1 3 _ (by decide) (Or.inl rfl) e3
  refine hM_inc (k := 3) (z := 1) rfl e1_3 lq3 (by decide) (by omega) (by omega) (by decide +kernel) rfl (fun lv2 x2 q2 e2_3 u2 => ?_) -- 41
  have e2_0 := u2 0 _ (by decide) (Or.inl rfl) e1_0
  have e2_1 := u2 1 _ (by decide) (Or.inl rfl) e1_1
  have e2_2 := u2 2 _ (by decide) (Or.inl rfl) e1_2
  refine hI_go (pc' := 4) (off := (-40)) rfl (by decide) ?_ -- 44
  exact g0 x2 q2 lv2 e2_0 e2_1 e2_2 e2_3
theorem r_lr41 {nd hp : Nat} {b r : Int} (M : RX h0 h H) (e0 : m_lk lv 0 = some (.ref nd)) (e1 : m_lk lv 1 = some (.ref hp)) {lx2 : Int32} (e2 : m_lk lv 2 = some (.int lx2)) (lq2 : lx2.toInt = b) {lx3 : Int32} (e3 : m_lk lv 3 = some (.int lx3)) (lq3 : lx3.toInt = r) (r0 : 0 ≤ r) (r1 : r ≤ 5)
    (g0 : ∀ x1 : Int32, x1.toInt = r + 1 → ∀ lv1 : List (Nat × Value), m_lk lv1 0 = some (.ref nd) → m_lk lv1 1 = some (.ref hp) → m_lk lv1 2 = some (.int lx2) → m_lk lv1 3 = some (.int x1) → HJ 72 4 lv1 [] h Q)
    : HJ 72 41 lv [] h Q := by
  refine hM_inc (k := 3) (z := 1) rfl e3 lq3 (by decide) (by omega) (by omega) (by decide +kernel) rfl (fun lv1 x1 q1 e1_3 u1 => ?_) -- 41
  have e1_0 := u1 0 _ (by decide) (Or.inl rfl) e0
  have e1_1 := u1 1 _ (by decide) (Or.inl rfl) e1
  have e1_2 := u1 2 _ (by decide) (Or.inl rfl) e2
  refine hI_go (pc' := 4) (off := (-40)) rfl (by decide) ?_ -- 44
  exact g0 x1 q1 lv1 e1_0 e1_1 e1_2 e1_3
def hp_ok (h0 : MH) (hp : Nat) : Prop := (h_k h0 hp).1 = 20 ∧ 16 ≤ hp ∧ (6 : Int) ≤ ((h_k h0 hp).2 : Int)
def hp_in (S : PSt) (f : Nat → Int) : Prop := ∀ r, r < 6 → f r = -1 ∨ (0 ≤ f r ∧ f r < (ps_n S : Int) ∧ ps_k S (f r).toNat = (r : Int))
theorem cs_ls {nd : Nat} {S : PSt} {a b : Int} (I : cs_of h0 H nd S) (a0 : 0 ≤ a) (a1 : a < (ps_n S : Int)) (b0 : 0 ≤ b) (b1 : b < (ps_n S : Int)) : (128 * ps_y S a.toNat + ps_t S a.toNat < 128 * ps_y S b.toNat + ps_t S b.toNat) ↔ ps_ls S a b := by
  obtain ⟨-, -, -, -, i5⟩ := I
  obtain ⟨-, t1, -⟩ := i5 a.toNat (by omega)
  obtain ⟨-, t2, -⟩ := i5 b.toNat (by omega)
  unfold ps_ls
  omega
theorem k_le {nd hp : Nat} {S : PSt} {f : Nat → Int} (M : RX h0 h H) (ok : nd_ok h0 nd (ps_n S)) (I : cs_of h0 H nd S) (hok : hp_ok h0 hp) (e : hp6 (H hp) f) (ho : hp_in S f) (g : ∀ x : Int32, x.toInt = pm_le S f 6 → Q (some (.int x)) h) : ∀ (d r : Nat) (lv : List (Nat × Value)) (xb xr : Int32), r + d = 6 → xb.toInt = pm_le S f r → (xb.toInt = -1 ∨ (0 ≤ xb.toInt ∧ xb.toInt < r ∧ f xb.toInt.toNat ≠ -1)) → xr.toInt = (r : Int) → m_lk lv 0 = some (.ref nd) → m_lk lv 1 = some (.ref hp) → m_lk lv 2 = some (.int xb) → m_lk lv 3 = some (.int xr) → HJ 72 4 lv [] h Q := by
  intro d
  induction d with
  | zero =>
    intro r lv xb xr hd hb bb hr e0 e1 e2 e3
    have r6 : r = 6 := by omega
    subst r6
    exact r_lr4 M e0 e1 e2 rfl e3 hr (by omega) (by omega) (by omega) hok.1 hok.2.2 ok.1.2 ok.1.1 (fun _ => g xb hb) (fun c _ => absurd c (by omega)) (fun c _ _ => absurd c (by omega)) (fun _ _ c _ _ => absurd c (by omega))
  | succ d ih =>
    intro r lv xb xr hd hb bb hr e0 e1 e2 e3
    have rN : (r : Int).toNat = r := Int.toNat_natCast r
    have er := e r (by omega)
    have keep : (f r = -1 ∨ (pm_le S f r ≠ -1 ∧ ¬ ps_ls S (f r) (f (pm_le S f r).toNat))) → HJ 72 41 lv [] h Q := fun c => r_lr41 M e0 e1 e2 rfl e3 hr (by omega) (by omega) (fun x1 q1 lv1 a0 a1 a2 a3 => ih (r + 1) lv1 xb x1 (by omega) (by rw [hb, pm_le, if_neg]; intro z; rcases c with c | ⟨c1, c2⟩; exact z.1 c; exact z.2.elim c1 c2) (by rcases bb with z | ⟨z1, z2, z3⟩; exact Or.inl z; exact Or.inr ⟨z1, by omega, z3⟩) (by omega) a0 a1 a2 a3)
    have take : f r ≠ -1 → (pm_le S f r = -1 ∨ ps_ls S (f r) (f (pm_le S f r).toNat)) → HJ 72 39 lv [] h Q := fun c1 c2 => r_lr39 M e0 e1 e2 rfl e3 hr (by omega) (by omega) (fun x2 q2 lv2 a0 a1 a2 a3 => ih (r + 1) lv2 xr x2 (by omega) (by rw [hr, pm_le, if_pos ⟨c1, c2⟩]) (Or.inr ⟨by omega, by omega, by rw [hr, rN]; exact c1⟩) (by omega) a0 a1 a2 a3)
    refine r_lr4 M e0 e1 e2 rfl e3 hr (by omega) (by omega) (by omega) hok.1 hok.2.2 ok.1.2 ok.1.1 (fun c => absurd c (by omega)) (fun _ c => keep (Or.inl (by rw [← er, ← rN]; exact c))) (fun _ c1 c2 => take (by rw [← er, ← rN]; exact c1) (Or.inl (hb.symm.trans c2))) (fun x5 q5 _ c1 c2 => ?_)
    rw [rN, er] at q5 c1
    obtain ⟨z1, z2, z3⟩ := bb.resolve_left c2
    obtain ⟨a0, a1, -⟩ := (ho r (by omega)).resolve_left c1
    obtain ⟨b0, b1, -⟩ := (ho xb.toInt.toNat (by omega)).resolve_left z3
    refine k_wt M ok I q5 a0 a1 (fun w qw => ?_)
    refine r_lr29 (r := (r : Int)) (w := w.toInt) M e0 e1 e2 rfl e3 hr rfl (by omega) (by omega) hok.1 hok.2.2 ok.1.2 ok.1.1 (fun x6 q6 => ?_)
    rw [e xb.toInt.toNat (by omega)] at q6
    refine k_wt M ok I q6 b0 b1 (fun u qu => ?_)
    have L := cs_ls I a0 a1 b0 b1
    refine r_lr36 (b := xb.toInt) (r := (r : Int)) (w := w.toInt) (u := u.toInt) M e0 e1 e2 rfl e3 hr rfl rfl (fun c => keep (Or.inr ⟨fun z => c2 (hb.trans z), fun z => ?_⟩)) (fun c => take c1 (Or.inr ?_))
    · rw [← hb] at z
      have := L.mpr z
      omega
    · rw [← hb]
      exact L.mp (by omega)
theorem k_least {nd hp : Nat} {S : PSt} {f : Nat → Int} (M : RX h0 h H) (ok : nd_ok h0 nd (ps_n S)) (I : cs_of h0 H nd S) (hok : hp_ok h0 hp) (e : hp6 (H hp) f) (ho : hp_in S f) (g : ∀ x : Int32, x.toInt = pm_le S f 6 → Q (some (.int x)) h) : HJ 72 0 (lv_args 0 [.ref nd, .ref hp]) [] h Q := by
  refine r_lr0 M rfl rfl (fun x1 q1 x3 q3 lv4 a0 a1 a2 a3 => ?_)
  exact k_le M ok I hok e ho g 6 0 lv4 x1 x3 rfl q1 (Or.inl q1) q3 a0 a1 a2 a3
end
end
