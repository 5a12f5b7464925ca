-- THE START: both constructors run with ranges, then the heap told by regions
noncomputable def c_up (s : AI) : Nat → Nat → AL → List AV → AH → Option (AL × (List AV × AH))
  | 0, _, _, _, _ => none
  | n + 1, pc, lv, st, A => if pc = 16 then some (lv, (st, A)) else (match c_st s 0 pc lv st A with
    | some (.inl (pc', lv', st', A')) => c_up s n pc' lv' st' A'
    | some (.inr (.inr (j, as, r, pc'))) => if b_ct as ≤ m_lc j then (match c_rn s 4000 j 0 (b_args 0 as) [] A with
      | some (v, A') => c_up s n pc' lv (v.toList ++ r) A'
      | none => none) else none
    | _ => none)
theorem c_upS (s : AI) : ∀ (n pc : Nat) (lv : AL) (st : List AV) (A : AH) (lv2 : AL) (st2 : List AV) (A2 : AH), c_up s n pc lv st A = some (lv2, (st2, A2)) → ∀ (lv' : List (Nat × Value)) (st' : List Value) (h : MH), g_l s lv lv' → g_s s st st' → g_h s A h → ∃ lv1 st1 h1, (∀ r, Rq 0 16 lv1 st1 h1 r → Rq 0 pc lv' st' h r) ∧ g_l s lv2 lv1 ∧ g_s s st2 st1 ∧ g_h s A2 h1 ∧ mlow h h1
  | 0, _, _, _, _, _, _, _, e => by cases e
  | n + 1, pc, lv, st, A, lv2, st2, A2, e => fun lv' st' h hl hs hh => by
    rw [c_up] at e
    by_cases hp : pc = 16
    · rw [if_pos hp] at e
      cases e
      subst hp
      exact ⟨lv', st', h, fun r g => g, hl, hs, hh, mlow.refl⟩
    · rw [if_neg hp] at e
      have P := p_st 0 pc hl hs hh
      cases hR : c_st s 0 pc lv st A with
      | none => rw [hR] at e; cases e
      | some R =>
        obtain ⟨R', e2, g⟩ := P R hR
        rw [hR] at e
        match R, R', g with
        | .inl (pc1, lv1, st1, A1), .inl (pc1', lv1', st1', h1), g =>
          obtain ⟨g1, g2, g3, g4⟩ := g
          obtain ⟨lv3, st3, h3, k1, k2, k3, k4, k5⟩ := c_upS s n pc1 lv1 st1 A1 lv2 st2 A2 e lv1' st1' h1 g2 g3 g4
          rw [g1] at e2
          have hlow : mlow h h1 := by
            rcases m_stw e2 with ⟨S, q1, q2⟩ | ⟨v9, ins, q1, -⟩ | ⟨cl, kd, idx, ins, q1, -⟩
            · cases q1
              exact q2
            · cases q1
            · cases q1
          exact ⟨lv3, st3, h3, fun r g => Rq.step e2 (k1 r g), k2, k3, k4, mlow.trans hlow k5⟩
        | .inr (.inr (j, as, r, pc1)), .inr (.inr (j', as', r', pc1')), g =>
          obtain ⟨g1, g2, g3, g4⟩ := g
          dsimp only at e
          by_cases hc : b_ct as ≤ m_lc j
          · rw [if_pos hc] at e
            cases hc1 : c_rn s 4000 j 0 (b_args 0 as) [] A with
            | none => rw [hc1] at e; cases e
            | some q =>
              obtain ⟨v1, A1⟩ := q
              rw [hc1] at e
              obtain ⟨v1', h1, q1, q2, q3⟩ := c_sim s 4000 j 0 _ [] A v1 A1 hc1 (lv_args 0 as') [] h (g_args 0 g2) trivial hh
              obtain ⟨lv3, st3, h3, k1, k2, k3, k4, k5⟩ := c_upS s n pc1 lv _ A1 lv2 st2 A2 e lv' (v1'.toList ++ r') h1 hl (g_app (by
                cases v1 with
                | none => cases v1' with
                  | none => trivial
                  | some x => exact q2.elim
                | some x => cases v1' with
                  | none => exact q2.elim
                  | some y => exact ⟨q2, trivial⟩) g3) q3
              rw [g1, g4] at e2
              refine ⟨lv3, st3, h3, fun rr g => Rq.call e2 (by rw [g_ct g2]; exact hc) ⟨4000, q1⟩ (k1 rr g), k2, k3, k4, mlow.trans (mlow_rn 4000 _ _ _ _ _ _ _ q1) k5⟩
          · rw [if_neg hc] at e
            cases e
        | .inr (.inl _), _, g => cases e
        | .inl _, .inr (.inl _), g => exact g.elim
        | .inl _, .inr (.inr _), g => exact g.elim
        | .inr (.inr _), .inl _, g => exact g.elim
        | .inr (.inr _), .inr (.inl _), g => exact g.elim
-- which address is of which region
def c_rt : List (Nat × Nat) := [(1, 1), (2, 2), (3, 2), (4, 2), (5, 2), (6, 2), (7, 2), (8, 3), (9, 3), (10, 3), (11, 3), (12, 3), (13, 3), (14, 5), (15, 4), (16, 6), (17, 7), (18, 13), (19, 10), (20, 12), (21, 14), (22, 15), (23, 12), (24, 14), (25, 15), (26, 12), (27, 14), (28, 15), (29, 12), (30, 14), (31, 15), (32, 8), (33, 9), (34, 11), (36, 103), (37, 104), (38, 105), (39, 16), (40, 17), (41, 18), (42, 21), (43, 19), (44, 23), (45, 20), (46, 22), (47, 24), (48, 16), (49, 17), (50, 18), (51, 21), (52, 19), (53, 23), (54, 20), (55, 22), (56, 24), (57, 25), (58, 26), (59, 27), (60, 28), (61, 49), (62, 50), (63, 51), (64, 52), (65, 53), (66, 54), (67, 55), (68, 56), (69, 57), (70, 58), (71, 59), (72, 60), (73, 61), (74, 62), (75, 63), (76, 64), (77, 65), (78, 66), (79, 67), (80, 68), (81, 69), (82, 70), (83, 71), (84, 72), (85, 73), (86, 74), (87, 75), (88, 76), (89, 77), (90, 78), (91, 79), (92, 80), (93, 81), (94, 82), (95, 83), (96, 84), (97, 85), (98, 86), (99, 87), (100, 88), (101, 89), (102, 90), (103, 91), (104, 92), (105, 93), (106, 94), (107, 95), (108, 96)]
def c_r0 (a : Nat) : Nat := match m_lk c_rt a with
  | some R => R
  | none => 0
def hs_in (p r : Int × Int) : Bool := decide (p.1 ≤ r.1) && decide (r.2 ≤ p.2)
def hs_rf (q : Nat × Bool) (a : Nat) : Bool := (Nat.beq a 0 && !q.2) || (!(Nat.beq a 0) && (!(Nat.beq q.1 0) && Nat.beq (c_r0 a) q.1))
def hs_fs (c : AC) : Nat → List FT → Bool
  | _, [] => true
  | k, .inl p :: r => hs_in p (b_rw c.2.1 k) && hs_fs c (k + 1) r
  | k, .inr (.inl _) :: r => hs_fs c (k + 1) r
  | k, .inr (.inr q) :: r => hs_rf q (b_gr c k) && hs_fs c (k + 1) r
def hs_ar (c : AC) (t : Option FT) : Bool := match t with
  | none => true
  | some (.inl p) => hs_in p (b_all c.2.1)
  | some (.inr (.inl _)) => true
  | some (.inr (.inr q)) => (List.range c.1.2).all (fun k => hs_rf q (b_gr c k))
def hs_c (A : AH) (q : Nat × Nat) : Bool := Nat.beq q.1 14 || (Nat.beq q.1 15 || (match b_cell A q.1, c_sp[q.2]? with
  | some c, some rs => (Nat.beq c.1.1 rs.1.1 && (Nat.ble rs.1.2.1 c.1.2 && Nat.ble c.1.2 rs.1.2.2)) && (((!rs.2.1 || Nat.ble 16 q.1) && Nat.blt q.1 (16 + A.1.1)) && (match rs.2.2.1 with
    | true => hs_ar c rs.2.2.2[0]?
    | false => hs_fs c 0 rs.2.2.2))
  | _, _ => false))
theorem hs_rfS {q : Nat × Bool} {a : Nat} (k : hs_rf q a = true) : t_rf c_r0 q.1 q.2 a := by
  unfold hs_rf at k
  rw [Bool.or_eq_true, Bool.and_eq_true, Bool.and_eq_true, Bool.and_eq_true] at k
  rcases k with ⟨k1, k2⟩ | ⟨k1, k2, k3⟩
  · exact Or.inl ⟨Nat.eq_of_beq_eq_true k1, by simpa using k2⟩
  · refine Or.inr ⟨fun e => ?_, fun e => ?_, Nat.eq_of_beq_eq_true k3⟩
    · rw [e] at k1
      cases k1
    · rw [e] at k2
      cases k2
theorem hs_fsS {c : AC} {h : MH} {a : Nat} (g : g_c c h a) : ∀ (l : List FT) (k0 : Nat), hs_fs c k0 l = true → ∀ (k : Nat) (ft : FT), l[k]? = some ft → t_ft c_r0 ft h a (k0 + k)
  | [], _, _, k, ft, hk => by
    rw [List.getElem?_nil] at hk
    cases hk
  | t :: r, k0, e, 0, ft, hk => by
    cases hk
    cases t with
    | inl p =>
      rw [hs_fs, Bool.and_eq_true] at e
      have e1 := e.1
      unfold hs_in at e1
      rw [Bool.and_eq_true] at e1
      have h1 := of_decide_eq_true e1.1
      have h2 := of_decide_eq_true e1.2
      have h3 : (b_rw c.2.1 k0).1 ≤ (h_i h a k0).toInt ∧ (h_i h a k0).toInt ≤ (b_rw c.2.1 k0).2 := g.2.1 k0
      show p.1 ≤ (h_i h a k0).toInt ∧ (h_i h a k0).toInt ≤ p.2
      omega
    | inr t => cases t with
      | inl u => trivial
      | inr q =>
        rw [hs_fs, Bool.and_eq_true] at e
        show t_rf c_r0 q.1 q.2 (h_r h a k0)
        rw [g.2.2.2 k0]
        exact hs_rfS e.1
  | t :: r, k0, e, k + 1, ft, hk => by
    have e2 : hs_fs c (k0 + 1) r = true := by
      cases t with
      | inl p =>
        rw [hs_fs, Bool.and_eq_true] at e
        exact e.2
      | inr t => cases t with
        | inl u => exact e
        | inr q =>
          rw [hs_fs, Bool.and_eq_true] at e
          exact e.2
    have := hs_fsS g r (k0 + 1) e2 k ft (by simpa using hk)
    rw [show k0 + (k + 1) = k0 + 1 + k by omega]
    exact this
theorem hs_cS {A : AH} {h : MH} {q : Nat × Nat} {s : AI} (hh : g_h s A h) (e : hs_c A q = true) (h4 : q.1 ≠ 14) (h5 : q.1 ≠ 15) : q.1 < 16 + h_n h ∧ ∃ rs, c_sp[q.2]? = some rs ∧ t_cell c_r0 rs h q.1 := by
  unfold hs_c at e
  rw [Bool.or_eq_true, Bool.or_eq_true] at e
  rcases e with e | e | e
  · exact absurd (Nat.eq_of_beq_eq_true e) h4
  · exact absurd (Nat.eq_of_beq_eq_true e) h5
  · split at e
    · next c rs hc hs =>
      rw [Bool.and_eq_true, Bool.and_eq_true, Bool.and_eq_true, Bool.and_eq_true, Bool.and_eq_true, Bool.or_eq_true] at e
      obtain ⟨⟨k1, k2, k3⟩, ⟨k4, k5⟩, k6⟩ := e
      have g := hh.2.2.1 q.1 c hc
      have k1 := Nat.eq_of_beq_eq_true k1
      refine ⟨by rw [hh.1]; exact xg_lt k5, rs, hs, by rw [g.1]; exact k1, by rw [g.1]; exact ⟨Nat.le_of_ble_eq_true k2, Nat.le_of_ble_eq_true k3⟩, fun z => ?_, fun k ft hk hl => ?_⟩
      · rcases k4 with k4 | k4
        · rw [z] at k4
          cases k4
        · exact Nat.le_of_ble_eq_true k4
      · unfold r_ft at hk
        cases hb : rs.2.2.1 with
        | false =>
          rw [hb] at k6 hk
          have := hs_fsS g _ 0 k6 k ft hk
          rw [Nat.zero_add] at this
          exact this
        | true =>
          rw [hb] at k6 hk
          have k6 : hs_ar c rs.2.2.2[0]? = true := k6
          have hk : rs.2.2.2[0]? = some ft := hk
          rw [hk] at k6
          cases ft with
          | inl p =>
            have k6 : hs_in p (b_all c.2.1) = true := k6
            unfold hs_in at k6
            rw [Bool.and_eq_true] at k6
            have h1 := of_decide_eq_true k6.1
            have h2 := of_decide_eq_true k6.2
            have h3 := g_all c.2.1 k (z := (h_i h q.1 k).toInt) (g.2.1 k)
            show p.1 ≤ (h_i h q.1 k).toInt ∧ (h_i h q.1 k).toInt ≤ p.2
            omega
          | inr t => cases t with
            | inl u => trivial
            | inr t =>
              have k6 : (List.range c.1.2).all (fun k => hs_rf t (b_gr c k)) = true := k6
              have hl := hl hb
              rw [g.1] at hl
              show t_rf c_r0 t.1 t.2 (h_r h q.1 k)
              rw [g.2.2.2 k]
              exact hs_rfS (List.all_eq_true.mp k6 k (List.mem_range.mpr hl))
    · cases e
def hs_rw (A : AH) (a : Nat) : Bool := match b_cell A a with
  | some c => decide (c.2.1 = ((0, 0), []))
  | none => false
def hs_nl (A : AH) (a k : Nat) : Bool := match b_cell A a with
  | some c => Nat.beq (b_gr c k) 0
  | none => false
def hs_lk (A : AH) (a k b : Nat) : Bool := match b_cell A a with
  | some c => Nat.beq (b_gr c k) b
  | none => false
def hs_i0 (A : AH) (a k : Nat) : Bool := match b_cell A a with
  | some c => decide (b_rw c.2.1 k = ((0 : Int), (0 : Int)))
  | none => false
def hs_iv (A : AH) (a k : Nat) (z : Int) : Bool := match b_cell A a with
  | some c => decide (b_rw c.2.1 k = (z, z))
  | none => false
-- what is told at the start
def hs_L : List (Nat × (Nat × Nat)) := [(16, (0, 17)), (17, (0, 18)), (17, (1, 19)), (19, (0, 20)), (19, (1, 23)), (19, (2, 26)), (19, (3, 29)), (20, (0, 21)), (20, (1, 22)), (23, (0, 24)), (23, (1, 25)), (26, (0, 27)), (26, (1, 28)), (29, (0, 30)), (29, (1, 31)), (61, (2, 63)), (61, (3, 64)), (61, (4, 65)), (61, (5, 66)), (2, (0, 8)), (3, (0, 9)), (4, (0, 10)), (5, (0, 11)), (6, (0, 12)), (7, (0, 13))]
def hs_V : List (Nat × (Nat × Int)) := [(63, (0, 0)), (17, (2, 0)), (17, (3, 0)), (17, (4, (-1))), (17, (5, 0)), (64, (0, 0)), (65, (0, (-1))), (66, (0, 0)), (2, (1, 0)), (3, (1, 0)), (4, (1, 0)), (5, (1, 0)), (6, (1, 0)), (7, (1, 0)), (8, (0, 110)), (8, (1, 101)), (8, (2, 119)), (9, (0, 112)), (9, (1, 117)), (9, (2, 116)), (10, (0, 109)), (10, (1, 101)), (10, (2, 108)), (10, (3, 100)), (11, (0, 108)), (11, (1, 101)), (11, (2, 115)), (11, (3, 115)), (12, (0, 108)), (12, (1, 111)), (12, (2, 119)), (12, (3, 101)), (12, (4, 114)), (13, (0, 99)), (13, (1, 117)), (13, (2, 116)), (1, (0, (-1))), (1, (1, (-1))), (1, (2, (-1))), (1, (3, 40)), (1, (4, 99)), (1, (5, (-1))), (1, (6, 40)), (1, (7, 40)), (1, (8, (-1))), (1, (9, 40)), (1, (10, (-1))), (1, (11, (-1))), (1, (12, 40)), (1, (13, 39)), (1, (14, 99)), (1, (15, 40)), (1, (16, 99)), (1, (17, (-1)))]
def hs_kd (A : AH) (a : Nat) (q : Nat × Nat) : Bool := match b_cell A a with
  | some c => decide (c.1 = q)
  | none => false
def hs_K : List (Nat × (Nat × Nat)) := [(1, (20, 18)), (8, (21, 3)), (9, (21, 3)), (10, (21, 4)), (11, (21, 4)), (12, (21, 5)), (13, (21, 3))]
def hs_m (A : AH) : Bool := hs_L.all (fun q => hs_lk A q.1 q.2.1 q.2.2) && (hs_V.all (fun q => hs_iv A q.1 q.2.1 q.2.2) && hs_K.all (fun q => hs_kd A q.1 q.2))
def b_h1 : AH := ((0, 0), [(1, b_c0 20 18 m_lim), (2, b_cs 8), (3, b_cs 9), (4, b_cs 10), (5, b_cs 11), (6, b_cs 12), (7, b_cs 13),
  (8, b_c0 21 3 [110, 101, 119]), (9, b_c0 21 3 [112, 117, 116]), (10, b_c0 21 4 [109, 101, 108, 100]), (11, b_c0 21 4 [108, 101, 115, 115]), (12, b_c0 21 5 [108, 111, 119, 101, 114]), (13, b_c0 21 3 [99, 117, 116])])
-- all that is asked of the heap behind the constructors
noncomputable def hs_all : Bool := match c_up b_t 4000 0 [(0, b_r 14)] [] b_h1 with
  | some (lv, (st, A)) => (decide (lv = [(2, b_r 61), (1, b_r 16), (0, b_r 14)]) && decide (st = [])) && ((c_rt.all (hs_c A) && decide (A.1 = (93, 178321))) && ((hs_rw A 67 && (hs_nl A 33 0 && (hs_nl A 33 1 && (hs_nl A 33 2 && hs_nl A 33 3)))) && (((hs_nl A 32 0 && (hs_nl A 32 1 && hs_nl A 32 2)) && (hs_lk A 16 2 33 && (hs_lk A 16 1 32 && (hs_lk A 16 7 57 && hs_lk A 57 0 58)))) && (hs_lk A 61 6 67 && (hs_lk A 61 67 108 && (hs_rw A 108 && (hs_lk A 61 2 63 && (hs_rw A 63 && (hs_lk A 16 0 17 && (hs_i0 A 17 2 && hs_m A))))))))))
  | none => false
theorem hs_run : hs_all = true := by decide +kernel
theorem g_h1 (L : Nat) (xs : Nat → Int32) : g_h b_t b_h1 (m_h0 L xs) := by
  have h0 := g_h0 b_t L xs [] (fun j hj => absurd hj (Nat.not_lt_zero j)) (g_iT _)
  refine ⟨h0.1, h0.2.1, fun a c hc => h0.2.2.1 a c ?_, h0.2.2.2.1, h0.2.2.2.2⟩
  have hm := m_lkm (show m_lk b_h1.2 a = some c from hc)
  unfold b_h1 at hm
  simp only [List.mem_cons, Prod.mk.injEq, List.not_mem_nil, or_false] at hm
  rcases hm with ⟨rfl, rfl⟩ | ⟨rfl, rfl⟩ | ⟨rfl, rfl⟩ | ⟨rfl, rfl⟩ | ⟨rfl, rfl⟩ | ⟨rfl, rfl⟩ | ⟨rfl, rfl⟩ | ⟨rfl, rfl⟩ | ⟨rfl, rfl⟩ | ⟨rfl, rfl⟩ | ⟨rfl, rfl⟩ | ⟨rfl, rfl⟩ | ⟨rfl, rfl⟩ <;> rfl
theorem hs_nlS {A : AH} {h : MH} {s : AI} {a k : Nat} (hh : g_h s A h) (e : hs_nl A a k = true) : h_r h a k = 0 := by
  unfold hs_nl at e
  split at e
  · next c hc =>
    rw [(hh.2.2.1 a c hc).2.2.2 k]
    exact Nat.eq_of_beq_eq_true e
  · cases e
theorem hs_lkS {A : AH} {h : MH} {s : AI} {a k b : Nat} (hh : g_h s A h) (e : hs_lk A a k b = true) : h_r h a k = b := by
  unfold hs_lk at e
  split at e
  · next c hc =>
    rw [(hh.2.2.1 a c hc).2.2.2 k]
    exact Nat.eq_of_beq_eq_true e
  · cases e
theorem hs_rwS {A : AH} {h : MH} {s : AI} {a : Nat} (hh : g_h s A h) (e : hs_rw A a = true) (j : Nat) : (h_i h a j).toInt = 0 := by
  unfold hs_rw at e
  split at e
  · next c hc =>
    have := (hh.2.2.1 a c hc).2.1 j
    rw [of_decide_eq_true e] at this
    have h1 : (0 : Int) ≤ (h_i h a j).toInt := this.1
    have h2 : (h_i h a j).toInt ≤ (0 : Int) := this.2
    omega
  · cases e
theorem hs_i0S {A : AH} {h : MH} {s : AI} {a k : Nat} (hh : g_h s A h) (e : hs_i0 A a k = true) : (h_i h a k).toInt = 0 := by
  unfold hs_i0 at e
  split at e
  · next c hc =>
    have h3 : (b_rw c.2.1 k).1 ≤ (h_i h a k).toInt ∧ (h_i h a k).toInt ≤ (b_rw c.2.1 k).2 := (hh.2.2.1 a c hc).2.1 k
    rw [of_decide_eq_true e] at h3
    have h1 : (0 : Int) ≤ (h_i h a k).toInt := h3.1
    have h2 : (h_i h a k).toInt ≤ (0 : Int) := h3.2
    omega
  · cases e
theorem hs_ivS {A : AH} {h : MH} {s : AI} {a k : Nat} {z : Int} (hh : g_h s A h) (e : hs_iv A a k z = true) : (h_i h a k).toInt = z := by
  unfold hs_iv at e
  split at e
  · next c hc =>
    have h3 : (b_rw c.2.1 k).1 ≤ (h_i h a k).toInt ∧ (h_i h a k).toInt ≤ (b_rw c.2.1 k).2 := (hh.2.2.1 a c hc).2.1 k
    rw [of_decide_eq_true e] at h3
    have h1 : z ≤ (h_i h a k).toInt := h3.1
    have h2 : (h_i h a k).toInt ≤ z := h3.2
    omega
  · cases e
theorem hs_kdS {A : AH} {h : MH} {s : AI} {a : Nat} {q : Nat × Nat} (hh : g_h s A h) (e : hs_kd A a q = true) : h_k h a = q := by
  unfold hs_kd at e
  split at e
  · next c hc => exact (hh.2.2.1 a c hc).1.trans (of_decide_eq_true e)
  · cases e
theorem c_r0m {a : Nat} (h : c_r0 a ≠ 0) : (a, c_r0 a) ∈ c_rt := by
  unfold c_r0 at h ⊢
  split at h
  · next R hR =>
    exact m_lkm hR
  · exact absurd rfl h
-- the state in which the law goes on
theorem hs_st (L : Nat) (hL : L ≤ 448) (xs : Nat → Int32) : ∃ (lv : List (Nat × Value)) (h : MH), (∀ r, Rq 0 16 lv [] h r → Rq 0 0 [(0, .ref 14)] [] (m_h0 L xs) r) ∧ lv = [(2, .ref 61), (1, .ref 16), (0, .ref 14)] ∧ TH c_sp c_r0 h ∧ CCok c_CC c_r0 ∧ t_nd c_r0 h ∧ t_rm c_r0 h ∧ c_PT 7 c_r0 h ∧ c_PT 10 c_r0 h ∧ c_PT 11 c_r0 h ∧ c_PT 12 c_r0 h ∧ c_PT 13 c_r0 h ∧ c_PT 14 c_r0 h ∧ c_PT 15 c_r0 h := by
  have hrun := hs_run
  unfold hs_all at hrun
  split at hrun
  · next lv2 st2 A2 hup =>
    obtain ⟨lv1, st1, h1, k1, k2, k3, k4, k5⟩ := c_upS b_t _ _ _ _ _ _ _ _ hup [(0, .ref 14)] [] (m_h0 L xs) ⟨⟨rfl, rfl⟩, trivial⟩ trivial (g_h1 L xs)
    simp only [Bool.and_eq_true] at hrun
    obtain ⟨⟨c1, c2⟩, ⟨c3, c4⟩, ⟨c5, n0, n1, n2, n3⟩, ⟨⟨i0, i1, i2⟩, l1, l2, l3, l4⟩, l5, l6, l7, l8, l9, l10, l11, l12⟩ := hrun
    have c1 := of_decide_eq_true c1
    have c2 := of_decide_eq_true c2
    have c4 := of_decide_eq_true c4
    subst c1
    subst c2
    have hst : st1 = [] := by
      cases st1 with
      | nil => rfl
      | cons a r => exact k3.elim
    subst hst
    have hlv : lv1 = [(2, .ref 61), (1, .ref 16), (0, .ref 14)] := by
      match lv1, k2 with
      | [a, b, c], ⟨⟨a1, a2⟩, ⟨b1, b2⟩, ⟨d1, d2⟩, _⟩ =>
        obtain ⟨a3, a4⟩ := a
        obtain ⟨b3, b4⟩ := b
        obtain ⟨d3, d4⟩ := c
        have a1 : a3 = 2 := a1
        have b1 : b3 = 1 := b1
        have d1 : d3 = 0 := d1
        have a2 : a4 = .ref 61 := a2
        have b2 : b4 = .ref 16 := b2
        have d2 : d4 = .ref 14 := d2
        rw [a1, b1, d1, a2, b2, d2]
    have hn : h_n h1 = 93 := by rw [k4.1, c4]
    have hz : h_z h1 = 178321 := by rw [k4.2.1, c4]
    have e14 : h_k h1 14 = (20, L) := by
      rw [(k5 14 (by decide)).1]
      rfl
    have e15 : h_k h1 15 = (0, 0) := by
      rw [(k5 15 (by decide)).1]
      rfl
    have hTH : TH c_sp c_r0 h1 := by
      refine ⟨rfl, fun a ha => ?_⟩
      have hm := c_r0m ha
      by_cases h4 : a = 14
      · subst h4
        refine ⟨by rw [hn]; decide, _, (rfl : c_sp[c_r0 14]? = some _), by rw [e14], by rw [e14]; exact ⟨Nat.zero_le _, hL⟩, (fun z => by cases z), fun k ft hk _ => ?_⟩
        cases (show some (Sum.inl ((-2147483648 : Int), (2147483647 : Int))) = some ft from hk)
        exact g_iT _
      · by_cases h5 : a = 15
        · subst h5
          refine ⟨by rw [hn]; decide, _, (rfl : c_sp[c_r0 15]? = some _), by rw [e15], by rw [e15]; exact ⟨Nat.le_refl _, Nat.le_refl _⟩, (fun z => by cases z), fun k ft hk _ => ?_⟩
          have hk : ([] : List FT)[k]? = some ft := hk
          rw [List.getElem?_nil] at hk
          cases hk
        · exact hs_cS k4 (List.all_eq_true.mp c3 _ hm) h4 h5
    refine ⟨_, h1, k1, hlv, hTH, ⟨Or.inr ⟨by decide, by decide, rfl⟩, fun a h2 h8 => ?_, Or.inr ⟨by decide, by decide, rfl⟩⟩, ?_, ?_, ?_, ?_, ?_, ?_, ?_, ?_, ?_⟩
    · have : ∀ a, a < 8 → 2 ≤ a → c_r0 a = 2 := by decide
      exact Or.inr ⟨by omega, by decide, this a h8 h2⟩
    · intro a ha
      have hm : (a, c_r0 a) ∈ c_rt := c_r0m (by rcases ha with e | e <;> (rw [e]; decide))
      have hno : ∀ q ∈ c_rt, q.2 ≠ 39 ∧ q.2 ≠ 48 := by decide
      rcases ha with e | e
      · exact absurd e (hno _ hm).1
      · exact absurd e (hno _ hm).2
    · have eP : r_P h1 = 33 := hs_lkS k4 l1
      have eI : r_I h1 = 32 := hs_lkS k4 l2
      have eS : r_S h1 = 57 := hs_lkS k4 l3
      have eT : h_r h1 (r_S h1) 0 = 58 := by
        rw [eS]
        exact hs_lkS k4 l4
      have s0 : ∀ k, k < 4 → r_sl h1 k = 0 := fun k hk => by
        unfold r_sl
        rw [eP]
        match k, hk with
        | 0, _ => exact hs_nlS k4 n0
        | 1, _ => exact hs_nlS k4 n1
        | 2, _ => exact hs_nlS k4 n2
        | 3, _ => exact hs_nlS k4 n3
      refine ⟨⟨⟨by rw [hn]; decide, Or.inl rfl⟩, by rw [eP]; exact ⟨by rw [hn]; decide, Or.inl rfl⟩, by rw [eI]; exact ⟨by rw [hn]; decide, Or.inl rfl⟩, by rw [eS]; exact ⟨by rw [hn]; decide, Or.inl rfl⟩, by rw [eT, hn]; decide, fun a e => (show ∀ q ∈ c_rt, q.2 = 6 → q.1 = 16 by decide) _ (c_r0m (by rw [e]; decide)) e, fun a e => by rw [eS]; exact (show ∀ q ∈ c_rt, q.2 = 25 → q.1 = 57 by decide) _ (c_r0m (by rw [e]; decide)) e⟩, fun k hk => Or.inl (s0 k hk), fun a ha => ?_, by rw [hn]; omega, by rw [hz]; omega⟩
      have hm : (a, c_r0 a) ∈ c_rt := c_r0m (by rcases ha with e | e <;> (rw [e]; decide))
      have hno : ∀ q ∈ c_rt, q.2 ≠ 39 ∧ q.2 ≠ 48 := by decide
      rcases ha with e | e
      · exact absurd e (hno _ hm).1
      · exact absurd e (hno _ hm).2
    · have hum : ∀ q ∈ c_rt, q.2 = 49 → q.1 = 61 := by decide
      have hm1 : ∀ m, c_r0 m = 49 → m = 61 := fun m e => hum _ (c_r0m (by rw [e]; decide)) e
      refine ⟨fun m m' e e' => by rw [hm1 m e, hm1 m' e'], fun m e q hq => ?_⟩
      rw [hm1 m e]
      unfold v_rw
      rw [hs_lkS k4 l5, hs_rwS k4 c5]
      omega
    · have hum : ∀ q ∈ c_rt, q.2 = 49 → q.1 = 61 := by decide
      have hm1 : ∀ m, c_r0 m = 49 → m = 61 := fun m e => hum _ (c_r0m (by rw [e]; decide)) e
      refine ⟨rfl, fun m m' e e' => by rw [hm1 m e, hm1 m' e'], fun m e k hk => ?_⟩
      rw [hm1 m e]
      have e1 : r_im h1 k = 0 := by
        unfold r_im
        rw [show r_I h1 = 32 from hs_lkS k4 l2]
        match k, hk with
        | 0, _ => exact hs_nlS k4 i0
        | 1, _ => exact hs_nlS k4 i1
        | 2, _ => exact hs_nlS k4 i2
      have e2 : v_ke h1 61 k = 0 := by
        unfold v_ke
        rw [hs_lkS k4 l6]
        exact hs_rwS k4 l7 k
      exact ⟨fun _ => e2, fun _ => e1⟩
    · have hum : ∀ q ∈ c_rt, q.2 = 49 → q.1 = 61 := by decide
      have hm1 : ∀ m, c_r0 m = 49 → m = 61 := fun m e => hum _ (c_r0m (by rw [e]; decide)) e
      have e1 : ∀ k, k < 3 → r_im h1 k = 0 := fun k hk => by
        unfold r_im
        rw [show r_I h1 = 32 from hs_lkS k4 l2]
        match k, hk with
        | 0, _ => exact hs_nlS k4 i0
        | 1, _ => exact hs_nlS k4 i1
        | 2, _ => exact hs_nlS k4 i2
      refine ⟨rfl, fun m m' e e' => by rw [hm1 m e, hm1 m' e'], fun j k hj hk hjk h0 => absurd (e1 j hj) h0, fun m e => ?_⟩
      rw [hm1 m e]
      refine ⟨?_, fun k hk h0 => absurd (e1 k hk) h0⟩
      unfold u_now v_sz
      rw [hs_lkS k4 l8, hs_lkS k4 l10, hs_i0S k4 l11, hs_rwS k4 l9]
    · have hum : ∀ q ∈ c_rt, q.2 = 49 → q.1 = 61 := by decide
      have hm1 : ∀ m, c_r0 m = 49 → m = 61 := fun m e => hum _ (c_r0m (by rw [e]; decide)) e
      have e1 : ∀ k, k < 3 → r_im h1 k = 0 := fun k hk => by
        unfold r_im
        rw [show r_I h1 = 32 from hs_lkS k4 l2]
        match k, hk with
        | 0, _ => exact hs_nlS k4 i0
        | 1, _ => exact hs_nlS k4 i1
        | 2, _ => exact hs_nlS k4 i2
      unfold hs_m at l12
      rw [Bool.and_eq_true, Bool.and_eq_true] at l12
      have lk : ∀ a k b, (a, (k, b)) ∈ hs_L → h_r h1 a k = b := fun a k b hq => hs_lkS k4 (List.all_eq_true.mp l12.1 _ hq)
      have iv : ∀ a k z, (a, (k, z)) ∈ hs_V → (h_i h1 a k).toInt = z := fun a k z hq => hs_ivS k4 (List.all_eq_true.mp l12.2.1 _ hq)
      refine ⟨rfl, fun m m' e e' => by rw [hm1 m e, hm1 m' e'], fun m e => ?_⟩
      rw [hm1 m e, show h_r h1 16 0 = 17 from lk 16 0 17 (by decide)]
      have f2 : q_fd h1 17 2 = 0 := iv 17 2 0 (by decide)
      have f3 : q_fd h1 17 3 = 0 := iv 17 3 0 (by decide)
      have f4 : q_fd h1 17 4 = -1 := iv 17 4 (-1) (by decide)
      have f5 : q_fd h1 17 5 = 0 := iv 17 5 0 (by decide)
      refine ⟨⟨⟨?_, ?_, ?_, ?_⟩, fun j hj => by omega, fun r hr => by omega⟩, fun k hk h0 => absurd (e1 k hk) h0⟩
      · rw [f2]
        unfold q_vm
        rw [lk 61 2 63 (by decide), iv 63 0 0 (by decide)]
      · rw [f3]
        unfold q_vm
        rw [lk 61 3 64 (by decide), iv 64 0 0 (by decide)]
      · rw [f4]
        unfold q_vm
        rw [lk 61 4 65 (by decide), iv 65 0 (-1) (by decide)]
      · rw [f5]
        unfold q_vm
        rw [lk 61 5 66 (by decide), iv 66 0 0 (by decide)]
    · have e1 : ∀ k, k < 3 → r_im h1 k = 0 := fun k hk => by
        unfold r_im
        rw [show r_I h1 = 32 from hs_lkS k4 l2]
        match k, hk with
        | 0, _ => exact hs_nlS k4 i0
        | 1, _ => exact hs_nlS k4 i1
        | 2, _ => exact hs_nlS k4 i2
      unfold hs_m at l12
      rw [Bool.and_eq_true, Bool.and_eq_true] at l12
      have lk : ∀ a k b, (a, (k, b)) ∈ hs_L → h_r h1 a k = b := fun a k b hq => hs_lkS k4 (List.all_eq_true.mp l12.1 _ hq)
      refine ⟨rfl, ?_, fun j k hj hk h0 _ => absurd (e1 j hj) h0⟩
      rw [show h_r h1 16 0 = 17 from lk 16 0 17 (by decide)]
      have ac : ∀ r, r < 4 → q_ac h1 17 r = 20 + 3 * r ∧ h_r h1 (20 + 3 * r) 0 = 21 + 3 * r ∧ h_r h1 (20 + 3 * r) 1 = 22 + 3 * r := fun r hr => by
        unfold q_ac
        rw [lk 17 1 19 (by decide)]
        match r, hr with
        | 0, _ => exact ⟨lk 19 0 20 (by decide), lk 20 0 21 (by decide), lk 20 1 22 (by decide)⟩
        | 1, _ => exact ⟨lk 19 1 23 (by decide), lk 23 0 24 (by decide), lk 23 1 25 (by decide)⟩
        | 2, _ => exact ⟨lk 19 2 26 (by decide), lk 26 0 27 (by decide), lk 26 1 28 (by decide)⟩
        | 3, _ => exact ⟨lk 19 3 29 (by decide), lk 29 0 30 (by decide), lk 29 1 31 (by decide)⟩
      intro r s hr hs hn
      obtain ⟨a1, a2, a3⟩ := ac r hr
      obtain ⟨b1, b2, b3⟩ := ac s hs
      have hrs : r ≠ s := hn.resolve_left (fun z => z rfl)
      rw [a1, b1, a2, b2, a3, b3]
      omega
    · unfold hs_m at l12
      rw [Bool.and_eq_true, Bool.and_eq_true] at l12
      have lk : ∀ a k b, (a, (k, b)) ∈ hs_L → h_r h1 a k = b := fun a k b hq => hs_lkS k4 (List.all_eq_true.mp l12.1 _ hq)
      have iv : ∀ a k z, (a, (k, z)) ∈ hs_V → (h_i h1 a k).toInt = z := fun a k z hq => hs_ivS k4 (List.all_eq_true.mp l12.2.1 _ hq)
      have kd : ∀ a q, (a, q) ∈ hs_K → h_k h1 a = q := fun a q hq => hs_kdS k4 (List.all_eq_true.mp l12.2.2 _ hq)
      have rg : ∀ k, k < 6 → c_r0 (2 + k) = 2 ∧ c_r0 (8 + k) = 3 := by decide
      refine ⟨rg, rfl, fun k hk => ?_, ⟨kd 1 _ (by decide), fun j hj => iv 1 j _ ((show ∀ j, j < 18 → (1, (j, lm_at j)) ∈ hs_V by decide) j hj)⟩⟩
      refine ⟨(t_spec hTH (by decide) (rfl : c_sp[2]? = some _) (rg k hk).1).1, lk _ _ _ ((show ∀ k, k < 6 → (2 + k, (0, 8 + k)) ∈ hs_L by decide) k hk), Int32.toInt_inj.mp (iv _ _ 0 ((show ∀ k, k < 6 → (2 + k, (1, (0 : Int))) ∈ hs_V by decide) k hk)), kd _ _ ((show ∀ k, k < 6 → (8 + k, (21, (rd_nm k).length)) ∈ hs_K by decide) k hk), (show ∀ k, k < 6 → (rd_nm k).length ≤ 5 by decide) k hk, fun i hi => ⟨iv _ _ _ ((show ∀ k, k < 6 → ∀ i, i < (rd_nm k).length → (8 + k, (i, (rd_nm k).getD i 0)) ∈ hs_V by decide) k hk i hi), (show ∀ k, k < 6 → ∀ i, i < (rd_nm k).length → 0 ≤ (rd_nm k).getD i 0 ∧ (rd_nm k).getD i 0 ≤ 127 by decide) k hk i hi⟩⟩
    · have e1 : ∀ k, k < 3 → r_im h1 k = 0 := fun k hk => by
        unfold r_im
        rw [show r_I h1 = 32 from hs_lkS k4 l2]
        match k, hk with
        | 0, _ => exact hs_nlS k4 i0
        | 1, _ => exact hs_nlS k4 i1
        | 2, _ => exact hs_nlS k4 i2
      have s0 : ∀ k, k < 4 → r_sl h1 k = 0 := fun k hk => by
        unfold r_sl
        rw [show r_P h1 = 33 from hs_lkS k4 l1]
        match k, hk with
        | 0, _ => exact hs_nlS k4 n0
        | 1, _ => exact hs_nlS k4 n1
        | 2, _ => exact hs_nlS k4 n2
        | 3, _ => exact hs_nlS k4 n3
      unfold hs_m at l12
      rw [Bool.and_eq_true, Bool.and_eq_true] at l12
      have lk : ∀ a k b, (a, (k, b)) ∈ hs_L → h_r h1 a k = b := fun a k b hq => hs_lkS k4 (List.all_eq_true.mp l12.1 _ hq)
      have iv : ∀ a k z, (a, (k, z)) ∈ hs_V → (h_i h1 a k).toInt = z := fun a k z hq => hs_ivS k4 (List.all_eq_true.mp l12.2.1 _ hq)
      have f5 : q_fd h1 (h_r h1 16 0) 5 = 0 := by
        rw [show h_r h1 16 0 = 17 from lk 16 0 17 (by decide)]
        exact iv 17 5 0 (by decide)
      exact ⟨rfl, fun k hk h0 => absurd (s0 k hk) h0, fun r hr => by omega, fun r hr => by omega, fun k hk h0 => absurd (e1 k hk) h0⟩
  · cases hrun
