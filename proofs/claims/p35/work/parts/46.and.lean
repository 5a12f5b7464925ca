section
-- the regions, as data: printed by wip/ck/pr.py
def c_sp : List RS := [((0, (0, 0)), (false, (false, []))), ((20, (18, 18)), (false, (true, [.inl ((-1), 99)]))), ((40, (0, 0)), (false, (false, [.inr (.inr (3, true)), .inl (0, 0)]))), ((21, (3, 5)), (false, (true, [.inl ((-128), 127)]))), ((0, (0, 0)), (false, (false, []))), ((20, (0, 448)), (false, (true, [.inl ((-2147483648), 2147483647)]))), ((9, (8, 8)), (true, (false, [.inr (.inr (7, true)), .inr (.inr (8, true)), .inr (.inr (9, true)), .inr (.inr (11, true)), .inr (.inr (103, true)), .inr (.inr (16, true)), .inr (.inr (16, true)), .inr (.inr (25, true))]))), ((7, (6, 6)), (true, (false, [.inr (.inr (13, true)), .inr (.inr (10, true)), .inl (0, 600), .inl ((-2147483648), 2147483647), .inl ((-2147483648), 2147483647), .inl (0, 4)]))), ((30, (3, 3)), (true, (true, [.inr (.inr (97, false))]))), ((31, (4, 4)), (true, (true, [.inr (.inr (29, false))]))), ((32, (4, 4)), (true, (true, [.inr (.inr (12, true))]))), ((5, (9, 9)), (true, (false, [.inr (.inl ()), .inl (0, 600), .inl (0, 600), .inl (0, 600), .inl ((-2147483648), 2147483647), .inl ((-2147483648), 2147483647), .inl ((-2147483648), 2147483647), .inl ((-2147483648), 2147483647), .inl ((-2147483648), 2147483647)]))), ((1, (3, 3)), (true, (false, [.inr (.inr (14, true)), .inr (.inr (15, true)), .inl (0, 40)]))), ((21, (600, 600)), (true, (true, [.inl ((-128), 127)]))), ((20, (40, 40)), (true, (true, [.inl ((-2147483648), 2147483647)]))), ((20, (120, 120)), (true, (true, [.inl ((-2147483648), 2147483647)]))), ((8, (10, 10)), (true, (false, [.inr (.inr (17, true)), .inr (.inr (18, true)), .inr (.inr (21, true)), .inr (.inr (19, true)), .inr (.inr (23, true)), .inr (.inr (20, true)), .inr (.inr (22, true)), .inr (.inr (24, true)), .inl (0, 63), .inl (0, 63)]))), ((20, (63, 63)), (true, (true, [.inl ((-2147483648), 2147483647)]))), ((20, (63, 63)), (true, (true, [.inl ((-2147483648), 2147483647)]))), ((20, (63, 63)), (true, (true, [.inl ((-2147483648), 2147483647)]))), ((20, (63, 63)), (true, (true, [.inl ((-2147483648), 2147483647)]))), ((20, (63, 63)), (true, (true, [.inl ((-1), 62)]))), ((20, (63, 63)), (true, (true, [.inl ((-1), 62)]))), ((20, (63, 63)), (true, (true, [.inl (0, 62)]))), ((22, (63, 63)), (true, (true, [.inl ((-2147483648), 2147483647)]))), ((6, (4, 4)), (true, (false, [.inr (.inr (26, true)), .inr (.inr (27, true)), .inr (.inr (28, true)), .inl (0, 12)]))), ((20, (1, 4096)), (true, (true, [.inl ((-2147483648), 2147483647)]))), ((20, (12, 12)), (true, (true, [.inl (0, 40)]))), ((20, (41, 41)), (true, (true, [.inl ((-2147483648), 2147483647)]))), ((4, (14, 14)), (true, (false, [.inr (.inr (39, true)), .inr (.inr (42, true)), .inr (.inr (30, true)), .inr (.inr (31, true)), .inr (.inr (32, true)), .inr (.inr (33, true)), .inr (.inr (34, true)), .inr (.inr (35, true)), .inr (.inr (35, true)), .inr (.inr (36, true)), .inr (.inr (37, true)), .inl (0, 40), .inl ((-2147483648), 2147483647), .inl ((-2147483648), 2147483647)]))), ((33, (41, 41)), (true, (true, [.inr (.inr (35, true))]))), ((20, (41, 41)), (true, (true, [.inl (0, 63)]))), ((20, (40, 40)), (true, (true, [.inl ((-2147483648), 2147483647)]))), ((20, (40, 40)), (true, (true, [.inl ((-2147483648), 2147483647)]))), ((20, (40, 40)), (true, (true, [.inl ((-2147483648), 2147483647)]))), ((20, (6, 6)), (true, (true, [.inl ((-2147483648), 2147483647)]))), ((20, (5, 5)), (true, (true, [.inl ((-2147483648), 2147483647)]))), ((20, (5, 5)), (true, (true, [.inl ((-2147483648), 2147483647)]))), ((20, (6, 6)), (true, (true, [.inl ((-2147483648), 2147483647)]))), ((3, (7, 7)), (true, (false, [.inr (.inr (40, true)), .inr (.inr (41, true)), .inr (.inr (35, true)), .inr (.inr (38, true)), .inr (.inr (16, true)), .inl (0, 15120), .inl ((-2147483648), 2147483647)]))), ((20, (448, 224000)), (true, (true, [.inl ((-2147483648), 2147483647)]))), ((25, (64, 32000)), (true, (true, [.inr (.inl ())]))), ((2, (4, 4)), (true, (false, [.inr (.inr (43, true)), .inr (.inr (44, true)), .inr (.inr (45, true)), .inr (.inr (46, true))]))), ((20, (41, 41)), (true, (true, [.inl ((-2147483648), 2147483647)]))), ((20, (41, 41)), (true, (true, [.inl ((-2147483648), 2147483647)]))), ((25, (41, 41)), (true, (true, [.inr (.inl ())]))), ((25, (41, 41)), (true, (true, [.inr (.inl ())]))), ((4, (14, 14)), (true, (false, [.inr (.inr (48, true)), .inr (.inr (42, true)), .inr (.inr (30, true)), .inr (.inr (31, true)), .inr (.inr (32, true)), .inr (.inr (33, true)), .inr (.inr (34, true)), .inr (.inr (35, true)), .inr (.inr (35, true)), .inr (.inr (36, true)), .inr (.inr (37, true)), .inl (0, 40), .inl ((-2147483648), 2147483647), .inl ((-2147483648), 2147483647)]))), ((3, (7, 7)), (true, (false, [.inr (.inr (40, true)), .inr (.inr (41, true)), .inr (.inr (35, true)), .inr (.inr (38, true)), .inr (.inr (16, true)), .inl (0, 16000), .inl ((-2147483648), 2147483647)]))), ((10, (68, 68)), (true, (false, [.inl ((-2147483648), 2147483647), .inr (.inr (50, true)), .inr (.inr (51, true)), .inr (.inr (52, true)), .inr (.inr (53, true)), .inr (.inr (54, true)), .inr (.inr (55, true)), .inl (0, 600), .inl (0, 600), .inl (0, 600), .inl ((-2147483648), 2147483647), .inl ((-2147483648), 2147483647), .inr (.inl ()), .inl ((-2147483648), 2147483647), .inl ((-2147483648), 2147483647), .inl ((-2147483648), 2147483647), .inr (.inr (56, true)), .inl (0, 16000), .inl ((-2147483648), 2147483647), .inl ((-2147483648), 2147483647), .inr (.inr (57, true)), .inr (.inr (58, true)), .inr (.inr (59, true)), .inr (.inr (60, true)), .inr (.inr (61, true)), .inr (.inr (62, true)), .inl (0, 63), .inr (.inr (63, true)), .inr (.inr (64, true)), .inr (.inr (65, true)), .inr (.inr (66, true)), .inr (.inr (67, true)), .inr (.inr (68, true)), .inr (.inr (69, true)), .inr (.inr (70, true)), .inl (0, 41), .inr (.inr (71, true)), .inr (.inr (72, true)), .inr (.inr (73, true)), .inr (.inr (74, true)), .inr (.inr (75, true)), .inr (.inr (76, true)), .inr (.inr (77, true)), .inl (0, 63), .inr (.inr (78, true)), .inr (.inr (79, true)), .inr (.inr (80, true)), .inl (0, 12), .inr (.inr (81, true)), .inl (0, 1024), .inr (.inr (82, true)), .inl (0, 6), .inr (.inr (83, true)), .inr (.inr (84, true)), .inr (.inr (85, true)), .inr (.inr (86, true)), .inr (.inr (87, true)), .inl (0, 4096), .inr (.inr (88, true)), .inr (.inr (89, true)), .inr (.inr (90, true)), .inr (.inr (91, true)), .inl ((-2147483648), 2147483647), .inr (.inr (92, true)), .inr (.inr (93, true)), .inr (.inr (94, true)), .inr (.inr (95, true)), .inr (.inr (96, true))]))), ((21, (2400, 2400)), (true, (true, [.inl ((-128), 127)]))), ((20, (4, 4)), (true, (true, [.inl (0, 600)]))), ((20, (4, 4)), (true, (true, [.inl ((-2147483648), 2147483647)]))), ((20, (4, 4)), (true, (true, [.inl ((-2147483648), 2147483647)]))), ((20, (4, 4)), (true, (true, [.inl (0, 4)]))), ((20, (2576, 2576)), (true, (true, [.inl ((-2147483648), 2147483647)]))), ((20, (161, 161)), (true, (true, [.inl ((-2147483648), 2147483647)]))), ((21, (16000, 16000)), (true, (true, [.inl ((-2147483648), 2147483647)]))), ((21, (16000, 16000)), (true, (true, [.inl ((-2147483648), 2147483647)]))), ((21, (16000, 16000)), (true, (true, [.inl ((-2147483648), 2147483647)]))), ((20, (96000, 96000)), (true, (true, [.inl ((-2147483648), 2147483647)]))), ((20, (6, 6)), (true, (true, [.inl ((-1), 15999)]))), ((20, (6, 6)), (true, (true, [.inl ((-1), 15999)]))), ((20, (64, 64)), (true, (true, [.inl (0, 15999)]))), ((20, (64, 64)), (true, (true, [.inl (0, 5)]))), ((20, (64, 64)), (true, (true, [.inl ((-1), 62)]))), ((20, (64, 64)), (true, (true, [.inl (0, 15999)]))), ((20, (64, 64)), (true, (true, [.inl ((-1), 62)]))), ((20, (6, 6)), (true, (true, [.inl (0, 15999)]))), ((20, (6, 6)), (true, (true, [.inl ((-2147483648), 2147483647)]))), ((20, (6, 6)), (true, (true, [.inl ((-2147483648), 2147483647)]))), ((20, (246, 246)), (true, (true, [.inl ((-1), 15999)]))), ((20, (40, 40)), (true, (true, [.inl ((-2147483648), 2147483647)]))), ((20, (40, 40)), (true, (true, [.inl ((-2147483648), 2147483647)]))), ((20, (41, 41)), (true, (true, [.inl ((-1), 40)]))), ((20, (41, 41)), (true, (true, [.inl ((-1), 40)]))), ((25, (41, 41)), (true, (true, [.inr (.inl ())]))), ((25, (16000, 16000)), (true, (true, [.inr (.inl ())]))), ((20, (64, 64)), (true, (true, [.inl ((-2147483648), 2147483647)]))), ((20, (64, 64)), (true, (true, [.inl ((-2147483648), 2147483647)]))), ((20, (41, 41)), (true, (true, [.inl ((-2147483648), 2147483647)]))), ((20, (12, 12)), (true, (true, [.inl (0, 40)]))), ((25, (1024, 1024)), (true, (true, [.inr (.inl ())]))), ((20, (6, 6)), (true, (true, [.inl ((-2147483648), 2147483647)]))), ((20, (6, 6)), (true, (true, [.inl ((-2147483648), 2147483647)]))), ((20, (6, 6)), (true, (true, [.inl ((-2147483648), 2147483647)]))), ((20, (4096, 4096)), (true, (true, [.inl ((-2147483648), 2147483647)]))), ((20, (4096, 4096)), (true, (true, [.inl (0, 4095)]))), ((20, (64, 64)), (true, (true, [.inl ((-2147483648), 2147483647)]))), ((20, (64, 64)), (true, (true, [.inl ((-2147483648), 2147483647)]))), ((20, (5, 5)), (true, (true, [.inl (0, 11)]))), ((20, (5, 5)), (true, (true, [.inl (0, 11)]))), ((22, (64, 64)), (true, (true, [.inl ((-2147483648), 2147483647)]))), ((22, (64, 64)), (true, (true, [.inl ((-2147483648), 2147483647)]))), ((25, (41, 41)), (true, (true, [.inr (.inl ())]))), ((20, (41, 41)), (true, (true, [.inl ((-2147483648), 2147483647)]))), ((22, (3, 3)), (true, (true, [.inl ((-2147483648), 2147483647)]))), ((7, (6, 6)), (true, (false, [.inr (.inr (99, true)), .inr (.inr (98, true)), .inl (0, 600), .inl ((-2147483648), 2147483647), .inl ((-2147483648), 2147483647), .inl (0, 4)]))), ((32, (4, 4)), (true, (true, [.inr (.inr (100, true))]))), ((21, (600, 600)), (true, (true, [.inl ((-128), 127)]))), ((1, (3, 3)), (true, (false, [.inr (.inr (101, true)), .inr (.inr (102, true)), .inl (0, 40)]))), ((20, (40, 40)), (true, (true, [.inl ((-2147483648), 2147483647)]))), ((20, (120, 120)), (true, (true, [.inl ((-2147483648), 2147483647)]))), ((1, (3, 3)), (true, (false, [.inr (.inr (104, true)), .inr (.inr (105, true)), .inl (0, 40)]))), ((20, (40, 40)), (true, (true, [.inl ((-2147483648), 2147483647)]))), ((20, (120, 120)), (true, (true, [.inl ((-2147483648), 2147483647)]))), ((5, (9, 9)), (true, (false, [.inr (.inr (13, true)), .inl (0, 600), .inl (0, 600), .inl (0, 600), .inl ((-2147483648), 2147483647), .inl ((-2147483648), 2147483647), .inl ((-2147483648), 2147483647), .inl ((-2147483648), 2147483647), .inl ((-2147483648), 2147483647)])))]
def c_CC : Nat × (Nat × Nat) := (1, (2, 4))
def c_hlb : Bool := c_sp.all (fun rs => decide (rs.1.2.2 < 1000) || !decide (30 ≤ rs.1.1 ∧ rs.1.1 < 33))
theorem c_hlen : ∀ (R : Nat) (rs : RS), c_sp[R]? = some rs → rs.1.2.2 < 1000 ∨ ¬ (30 ≤ rs.1.1 ∧ rs.1.1 < 33) := by
  have hb : c_hlb = true := by decide +kernel
  intro R rs h
  have := List.all_eq_true.mp hb rs (List.mem_of_getElem? h)
  rw [Bool.or_eq_true] at this
  rcases this with t | t
  · exact Or.inl (of_decide_eq_true t)
  · refine Or.inr (fun z => ?_)
    rw [decide_eq_true z] at t
    cases t
theorem ENV_nil {sp : List RS} {CC : Nat × (Nat × Nat)} {PT : Nat → (Nat → Nat) → MH → Prop} : ENV sp CC PT [] := fun _ _ h => by cases h
theorem ENV_cons {sp : List RS} {CC : Nat × (Nat × Nat)} {PT : Nat → (Nat → Nat) → MH → Prop} {id : Nat} {m : SM} {env : List (Nat × SM)} (v : V_ok sp CC PT (id % 1000) m) (e : ENV sp CC PT env) : ENV sp CC PT ((id, m) :: env) := fun k m2 h => by
  rw [m_lkc] at h
  by_cases hk : id = k
  · rw [if_pos hk] at h
    cases h
    rw [← hk]
    exact v
  · rw [if_neg hk] at h
    exact e k m2 h
end
section
-- THE RUN OF A ROW OF ACTS, PURE (ahead of the tokens)
-- how much a heap's roots weigh
def y_tg (x : Int) : Nat := if x = -1 then 0 else 1
theorem y_tg0 {x : Int} (h : x = -1) : y_tg x = 0 := if_pos h
theorem y_tg1 {x : Int} (h : x ≠ -1) : y_tg x = 1 := if_neg h
def p_ws (f : Nat → Int) : Nat → Nat
  | 0 => 0
  | r + 1 => p_ws f r + y_tg (f r) * 2 ^ r
theorem p_wsC {f f' : Nat → Int} : ∀ {r : Nat}, (∀ j, j < r → f' j = f j) → p_ws f' r = p_ws f r
  | 0, _ => rfl
  | r + 1, h => by
    rw [p_ws, p_ws, p_wsC (fun j hj => h j (by omega)), h r (by omega)]
-- a store of nodes: how many, things, keys, ranks, what is right below (6 * node + rank), links made
abbrev PSt : Type := Nat × (Nat → Int) × (Nat → Int) × (Nat → Int) × (Nat → Int) × Int
def ps_n (S : PSt) : Nat := S.1
def ps_t (S : PSt) : Nat → Int := S.2.1
def ps_y (S : PSt) : Nat → Int := S.2.2.1
def ps_k (S : PSt) : Nat → Int := S.2.2.2.1
def ps_b (S : PSt) : Nat → Int := S.2.2.2.2.1
def ps_l (S : PSt) : Int := S.2.2.2.2.2
def ps_mk (S : PSt) (t y k : Int) (f : Nat → Int) : PSt := (ps_n S + 1, m_u (ps_t S) (ps_n S) t, m_u (ps_y S) (ps_n S) y, m_u (ps_k S) (ps_n S) k, fun j => if 6 * ps_n S ≤ j ∧ j < 6 * ps_n S + 6 then f (j - 6 * ps_n S) else ps_b S j, ps_l S)
def ps_le (S : PSt) (l : Int) : PSt := (ps_n S, ps_t S, ps_y S, ps_k S, ps_b S, l)
theorem ps_mkN {S : PSt} {t y k : Int} {f : Nat → Int} : ps_n (ps_mk S t y k f) = ps_n S + 1 ∧ ps_t (ps_mk S t y k f) = m_u (ps_t S) (ps_n S) t ∧ ps_y (ps_mk S t y k f) = m_u (ps_y S) (ps_n S) y ∧ ps_k (ps_mk S t y k f) = m_u (ps_k S) (ps_n S) k ∧ ps_l (ps_mk S t y k f) = ps_l S := ⟨rfl, rfl, rfl, rfl, rfl⟩
theorem ps_mkB {S : PSt} {t y k : Int} {f : Nat → Int} {j : Nat} (h : j < 6 * ps_n S) : ps_b (ps_mk S t y k f) j = ps_b S j := by
  show (if 6 * ps_n S ≤ j ∧ j < 6 * ps_n S + 6 then f (j - 6 * ps_n S) else ps_b S j) = _
  rw [if_neg (by omega)]
theorem ps_mkC {S : PSt} {t y k : Int} {f : Nat → Int} {r : Nat} (h : r < 6) : ps_b (ps_mk S t y k f) (6 * ps_n S + r) = f r := by
  show (if 6 * ps_n S ≤ 6 * ps_n S + r ∧ 6 * ps_n S + r < 6 * ps_n S + 6 then f (6 * ps_n S + r - 6 * ps_n S) else _) = _
  rw [if_pos ⟨by omega, by omega⟩, show 6 * ps_n S + r - 6 * ps_n S = r by omega]
-- of two nodes the lesser
abbrev ps_ls (S : PSt) (a b : Int) : Prop := ps_y S a.toNat < ps_y S b.toNat ∨ (ps_y S a.toNat = ps_y S b.toNat ∧ ps_t S a.toNat < ps_t S b.toNat)
def ps_up (S : PSt) (a b : Int) : Int := if ps_ls S b a then b else a
def ps_dn (S : PSt) (a b : Int) : Int := if ps_ls S b a then a else b
theorem ps_udT {S : PSt} {a b : Int} (h : ps_ls S b a) : ps_up S a b = b ∧ ps_dn S a b = a := ⟨if_pos h, if_pos h⟩
theorem ps_udF {S : PSt} {a b : Int} (h : ¬ ps_ls S b a) : ps_up S a b = a ∧ ps_dn S a b = b := ⟨if_neg h, if_neg h⟩
-- a link
def ps_lk (S : PSt) (u d : Int) : PSt := ps_le (ps_mk S (ps_t S u.toNat) (ps_y S u.toNat) (ps_k S u.toNat + 1) (fun r => if (r : Int) < ps_k S u.toNat then ps_b S (6 * u.toNat + r) else d)) (ps_l S + 1)
def ps_link (S : PSt) (a b : Int) : PSt := ps_lk S (ps_up S a b) (ps_dn S a b)
theorem ps_lkN {S : PSt} {u d : Int} : ps_n (ps_lk S u d) = ps_n S + 1 ∧ ps_t (ps_lk S u d) = m_u (ps_t S) (ps_n S) (ps_t S u.toNat) ∧ ps_y (ps_lk S u d) = m_u (ps_y S) (ps_n S) (ps_y S u.toNat) ∧ ps_k (ps_lk S u d) = m_u (ps_k S) (ps_n S) (ps_k S u.toNat + 1) ∧ ps_l (ps_lk S u d) = ps_l S + 1 := ⟨rfl, rfl, rfl, rfl, rfl⟩
theorem ps_lkB {S : PSt} {u d : Int} {j : Nat} (h : j < 6 * ps_n S) : ps_b (ps_lk S u d) j = ps_b S j := ps_mkB (S := S) (t := ps_t S u.toNat) (y := ps_y S u.toNat) (k := ps_k S u.toNat + 1) (f := fun r => if (r : Int) < ps_k S u.toNat then ps_b S (6 * u.toNat + r) else d) h
theorem ps_lkC {S : PSt} {u d : Int} {r : Nat} (h : r < 6) : ps_b (ps_lk S u d) (6 * ps_n S + r) = if (r : Int) < ps_k S u.toNat then ps_b S (6 * u.toNat + r) else d := ps_mkC (S := S) (t := ps_t S u.toNat) (y := ps_y S u.toNat) (k := ps_k S u.toNat + 1) (f := fun r => if (r : Int) < ps_k S u.toNat then ps_b S (6 * u.toNat + r) else d) h
-- heaps melded, rank by rank: (store, heap, carried)
abbrev PXt : Type := PSt × (Nat → Int) × Int
def pm_one (x y : Int) : Int := if x = -1 then y else x
def pm_st (s : Nat → Int) (X : PXt) (r : Nat) : PXt :=
  if X.2.1 r ≠ -1 ∧ s r ≠ -1 then (ps_link X.1 (X.2.1 r) (s r), m_u X.2.1 r X.2.2, (ps_n X.1 : Int))
  else if X.2.2 ≠ -1 ∧ pm_one (X.2.1 r) (s r) ≠ -1 then (ps_link X.1 X.2.2 (pm_one (X.2.1 r) (s r)), m_u X.2.1 r (-1), (ps_n X.1 : Int))
  else (X.1, m_u X.2.1 r (pm_one X.2.2 (pm_one (X.2.1 r) (s r))), -1)
def pm_run (s : Nat → Int) (X : PXt) : Nat → PXt
  | 0 => X
  | r + 1 => pm_st s (pm_run s X r) r
def pm_md (S : PSt) (h s : Nat → Int) : PSt × (Nat → Int) := ((pm_run s (S, h, -1) 6).1, (pm_run s (S, h, -1) 6).2.1)
-- the least root's rank
def pm_le (S : PSt) (h : Nat → Int) : Nat → Int
  | 0 => -1
  | r + 1 => if h r ≠ -1 ∧ (pm_le S h r = -1 ∨ ps_ls S (h r) (h (pm_le S h r).toNat)) then (r : Int) else pm_le S h r
def pm_tk (X : PSt × (Nat → Int)) : PSt × (Nat → Int) := if pm_le X.1 X.2 6 = -1 then X else pm_md X.1 (m_u X.2 (pm_le X.1 X.2 6).toNat (-1)) (fun i => if (i : Int) < pm_le X.1 X.2 6 then ps_b X.1 (6 * (X.2 (pm_le X.1 X.2 6).toNat).toNat + i) else -1)
-- what a put makes
def pm_pu (S : PSt) (h : Nat → Int) (t k : Int) : PSt × (Nat → Int) := pm_md (ps_mk S t k 0 (fun _ => -1)) h (fun r => if r = 0 then (ps_n S : Int) else -1)
-- all less than a key go
def pm_ct (k : Int) : Nat → PSt × (Nat → Int) → PSt × (Nat → Int)
  | 0, X => X
  | f + 1, X => if pm_le X.1 X.2 6 = -1 ∨ k ≤ ps_y X.1 (X.2 (pm_le X.1 X.2 6).toNat).toNat then X else pm_ct k f (pm_tk X)
-- a walk: (how many, nodes, from which place, how deep); what waits, the next one first
abbrev WKt : Type := Nat × (Nat → Int) × (Nat → Int) × (Nat → Int)
def wk_on (v u : Int) (O : WKt) : WKt := (O.1 + 1, m_u O.2.1 O.1 v, m_u O.2.2.1 O.1 u, m_u O.2.2.2 O.1 (if u = -1 then 0 else O.2.2.2 u.toNat + 1))
def wk_ch (S : PSt) (v : Int) (w : Nat) : Nat → List (Int × Int)
  | 0 => []
  | r + 1 => (ps_b S (6 * v.toNat + r), (w : Int)) :: wk_ch S v w r
def wk_go (S : PSt) : Nat → List (Int × Int) → WKt → WKt
  | 0, _, O => O
  | _ + 1, [], O => O
  | f + 1, (v, u) :: l, O => wk_go S f (wk_ch S v O.1 (ps_k S v.toNat).toNat ++ l) (wk_on v u O)
def wk_rs (h : Nat → Int) : Nat → Nat → List (Int × Int)
  | 0, _ => []
  | d + 1, r => if h r = -1 then wk_rs h d (r + 1) else (h r, -1) :: wk_rs h d (r + 1)
def wk_0 : WKt := (0, fun _ => 0, fun _ => 0, fun _ => 0)
def wk_all (S : PSt) (h : Nat → Int) : WKt := wk_go S 64 (wk_rs h 6 0) wk_0
def wk_st (P U : Nat → Int) : Nat → List (Int × Int)
  | 0 => []
  | t + 1 => (P t, U t) :: wk_st P U t
-- a thing lowered
def lw_f (S : PSt) (t k : Int) (O : WKt) : Nat → Nat → Int
  | 0, _ => -1
  | d + 1, i => if ps_t S (O.2.1 i).toNat = t ∧ k ≤ ps_y S (O.2.1 i).toNat then (i : Int) else lw_f S t k O d (i + 1)
def lw_an (O : WKt) (p : Int) : Nat → Int
  | 0 => p
  | j + 1 => O.2.2.1 (lw_an O p j).toNat
def lw_ri (S : PSt) (t k : Int) (y : Nat → Nat) : Nat → Nat
  | 0 => 0
  | i + 1 => if k < ps_y S (y i) ∨ (k = ps_y S (y i) ∧ t < ps_t S (y i)) then lw_ri S t k y i else i + 1
def lw_mk (S : PSt) (t k : Int) (y : Nat → Nat) (n e : Nat) : Nat → PSt
  | 0 => S
  | d + 1 => ps_mk (lw_mk S t k y n e d) (if d = e then t else ps_t S (y (if e < d then d - 1 else d))) (if d = e then k else ps_y S (y (if e < d then d - 1 else d))) (ps_k S (y d)) (fun r => if d < n ∧ (r : Int) = ps_k S (y (d + 1)) then ((ps_n S + d + 1 : Nat) : Int) else ps_b S (6 * y d + r))
def lw_y (O : WKt) (p : Int) (n i : Nat) : Nat := (O.2.1 (lw_an O p (n - i)).toNat).toNat
def lw_do (S : PSt) (h : Nat → Int) (t k : Int) : Option (PSt × (Nat → Int)) :=
  let O := wk_all S h
  let p := lw_f S t k O O.1 0
  let n := (O.2.2.2 p.toNat).toNat
  let y := lw_y O p n
  if p = -1 then none else some (lw_mk S t k y n (lw_ri S t k y n) (n + 1), m_u h (ps_k S (y 0)).toNat (ps_n S : Int))
-- a row: store, things, versions, roots (6 * version + rank), made, linked, from which versions
abbrev RYt : Type := PSt × Int × Nat × (Nat → Int) × (Nat → Int) × (Nat → Int) × (Nat → Int) × (Nat → Int)
def ry_s (Y : RYt) : PSt := Y.1
def ry_t (Y : RYt) : Int := Y.2.1
def ry_v (Y : RYt) : Nat := Y.2.2.1
def ry_r (Y : RYt) : Nat → Int := Y.2.2.2.1
def ry_m (Y : RYt) : Nat → Int := Y.2.2.2.2.1
def ry_l (Y : RYt) : Nat → Int := Y.2.2.2.2.2.1
def ry_a (Y : RYt) : Nat → Int := Y.2.2.2.2.2.2.1
def ry_b (Y : RYt) : Nat → Int := Y.2.2.2.2.2.2.2
def ry_h (Y : RYt) (v : Int) : Nat → Int := fun r => ry_r Y (6 * v.toNat + r)
def ry_is (Y : RYt) (v : Int) : Bool := decide (0 ≤ v ∧ v < (ry_v Y : Int))
def ry_do (Y : RYt) (w v a b : Int) : Option (PSt × (Nat → Int) × Int) :=
  let S := ps_le (ry_s Y) 0
  if w = 0 then some (S, fun _ => -1, ry_t Y)
  else if ry_is Y v = false then none
  else if w = 2 then (if ry_is Y a = true ∧ p_ws (ry_h Y v) 6 + p_ws (ry_h Y a) 6 ≤ 63 then some ((pm_md S (ry_h Y v) (ry_h Y a)).1, (pm_md S (ry_h Y v) (ry_h Y a)).2, ry_t Y) else none)
  else if w = 1 then (if p_ws (ry_h Y v) 6 = 63 then none else some ((pm_pu S (ry_h Y v) (ry_t Y) a).1, (pm_pu S (ry_h Y v) (ry_t Y) a).2, ry_t Y + 1))
  else if w = 3 then (if pm_le S (ry_h Y v) 6 = -1 then none else some ((pm_tk (S, ry_h Y v)).1, (pm_tk (S, ry_h Y v)).2, ry_t Y))
  else if w = 4 then (match lw_do S (ry_h Y v) a b with
    | none => none
    | some X => some (X.1, X.2, ry_t Y))
  else some ((pm_ct a 63 (S, ry_h Y v)).1, (pm_ct a 63 (S, ry_h Y v)).2, ry_t Y)
def ry_z (Y : RYt) : RYt := (ps_le (ry_s Y) 0, Y.2)
def ry_kp (Y : RYt) (k : Nat) (w v a : Int) (X : PSt × (Nat → Int) × Int) : RYt := (X.1, X.2.2, ry_v Y + 1, fun j => if 6 * ry_v Y ≤ j ∧ j < 6 * ry_v Y + 6 then X.2.1 (j - 6 * ry_v Y) else ry_r Y j, m_u (ry_m Y) k ((ps_n X.1 : Int) - (ps_n (ry_s Y) : Int)), m_u (ry_l Y) k (ps_l X.1), m_u (ry_a Y) (ry_v Y) (if w = 0 then -1 else v), m_u (ry_b Y) (ry_v Y) (if w = 2 then a else -1))
def ry_0 : RYt := ((0, fun _ => 0, fun _ => 0, fun _ => 0, fun _ => 0, 0), 0, 1, fun _ => -1, fun _ => 0, fun _ => 0, fun _ => -1, fun _ => -1)
-- the acts one after the other: 4 * k the kind, behind it the numbers
def ry_run (T : Nat → Int) : Nat → RYt × Bool
  | 0 => (ry_0, true)
  | k + 1 => if (ry_run T k).2 = true then (match ry_do (ry_z (ry_run T k).1) (T (4 * k)) (T (4 * k + 1)) (T (4 * k + 2)) (T (4 * k + 3)) with
    | none => (ry_z (ry_run T k).1, false)
    | some X => (ry_kp (ry_z (ry_run T k).1) k (T (4 * k)) (T (4 * k + 1)) (T (4 * k + 2)) X, true)) else ry_run T k
theorem ry_run0 {T : Nat → Int} {k : Nat} (f : (ry_run T k).2 = true) (e : ry_do (ry_z (ry_run T k).1) (T (4 * k)) (T (4 * k + 1)) (T (4 * k + 2)) (T (4 * k + 3)) = none) : ry_run T (k + 1) = (ry_z (ry_run T k).1, false) := by
  rw [ry_run, if_pos f, e]
theorem ry_run1 {T : Nat → Int} {k : Nat} {X : PSt × (Nat → Int) × Int} (f : (ry_run T k).2 = true) (e : ry_do (ry_z (ry_run T k).1) (T (4 * k)) (T (4 * k + 1)) (T (4 * k + 2)) (T (4 * k + 3)) = some X) : ry_run T (k + 1) = (ry_kp (ry_z (ry_run T k).1) k (T (4 * k)) (T (4 * k + 1)) (T (4 * k + 2)) X, true) := by
  rw [ry_run, if_pos f, e]
theorem ry_runE {T : Nat → Int} {k : Nat} (f : (ry_run T k).2 = false) : ∀ d, ry_run T (k + d) = ry_run T k
  | 0 => rfl
  | d + 1 => by
    have e := ry_runE f d
    rw [← Nat.add_assoc, ry_run, e, f, if_neg (by decide)]
-- the reference's picture of a store
def rs_of (F : Nat → Int) (V : Nat → Nat → Int) (S : PSt) : Prop := F 17 = (ps_n S : Int) ∧ F 19 = ps_l S ∧ (0 ≤ ps_l S ∧ ps_l S ≤ (ps_n S : Int)) ∧ ∀ v : Nat, v < ps_n S → ps_t S v = V 20 v ∧ (0 ≤ V 20 v ∧ V 20 v ≤ 127) ∧ ps_y S v = V 21 v ∧ (0 ≤ V 21 v ∧ V 21 v ≤ 99) ∧ ps_k S v = V 22 v ∧ ∀ r : Nat, (r : Int) < V 22 v → ps_b S (6 * v + r) = V 23 (6 * v + r)
def hp6 (f h : Nat → Int) : Prop := ∀ k, k < 6 → f k = h k
theorem rs_ofV {F F' : Nat → Int} {V V' : Nat → Nat → Int} {S : PSt} (I : rs_of F V S) (f17 : F' 17 = F 17) (f19 : F' 19 = F 19) (v20 : V' 20 = V 20) (v21 : V' 21 = V 21) (v22 : V' 22 = V 22) (v23 : V' 23 = V 23) : rs_of F' V' S := by
  unfold rs_of
  rw [f17, f19, v20, v21, v22, v23]
  exact I
def p_bc (n : Nat) : Nat := n % 2 + n / 2 % 2 + n / 4 % 2 + n / 8 % 2 + n / 16 % 2 + n / 32 % 2
def bt (v : Int) : Int64 := (Int64.ofNat (1 : Fin 2).val) <<< ((Int32.ofInt v).toInt64 &&& 63)
def fo_of (L : Nat → Int64) (v : Int) : Int64 := if 0 ≤ v ∧ v < 41 then L v.toNat else Int64.ofNat (0 : Fin 2).val
def cr_of (Y : RYt) (v : Int) : Int := if v = -1 then 0 else (p_bc (p_ws (ry_h Y v) 6) : Int)
def ry_pd (Y : RYt) (k : Nat) : Int := ry_l Y k + (p_bc (p_ws (ry_h Y ((k + 1 : Nat) : Int)) 6) : Int) - cr_of Y (ry_a Y (k + 1)) - cr_of Y (ry_b Y (k + 1))
def fro_of (L : Nat → Int64) (Y : RYt) : Prop := ∀ v : Nat, v < ry_v Y → L v = bt v ||| fo_of L (ry_a Y v) ||| fo_of L (ry_b Y v)
def av_1 (w a b : Int) : Prop := (w = 1 → 0 ≤ a ∧ a ≤ 99) ∧ (w = 4 → 0 ≤ b ∧ b ≤ 99)
def av_2 (T : Nat → Int) (k : Nat) : Prop := (0 ≤ T (4 * k) ∧ T (4 * k) ≤ 5) ∧ av_1 (T (4 * k)) (T (4 * k + 2)) (T (4 * k + 3)) ∧ (T (4 * k) = 0 → T (4 * k + 1) = -1)
def pa_w (h : MH) (pa i : Nat) : Nat := if i < 7 then h_r h (h_r h (h_r h pa 0) 4) i else if i = 7 then h_r h pa 7 else if i = 8 then h_r h pa 8 else if i = 9 then h_r h (h_r h pa 0) 2 else if i = 10 then h_r h (h_r h pa 0) 3 else if i = 11 then h_r h (h_r h pa 0) 0 else if i < 16 then h_r h pa (i - 9) else if i < 18 then h_r h (h_r h pa 1) (i - 16) else h_r h (h_r h pa 2) (i - 18)
end
section
-- tokens: what they hang on
def c_dep (t : Nat) : List (Nat × Nat) := match t with
  | 1 => [(39, 0), (39, 1), (39, 5), (39, 1002), (48, 0), (48, 1), (48, 5), (48, 1002)]
  | 2 => [(0, 1001), (0, 1002), (6, 0), (6, 1), (6, 2), (6, 7), (6, 1002), (8, 1001), (9, 1001), (25, 0), (25, 1002), (29, 0), (39, 1), (39, 1002), (47, 0), (48, 1), (48, 1002), (1000, 1002)]
  | 3 => [(49, 17), (49, 22), (49, 23), (49, 1002), (59, 1001), (59, 1002), (60, 1001), (60, 1002)]
  | 4 => [(49, 17), (49, 22), (49, 23), (49, 24), (49, 1002), (59, 1001), (59, 1002), (60, 1001), (60, 1002), (61, 1001), (61, 1002)]
  | 5 => [(49, 17), (49, 22), (49, 23), (49, 25), (49, 1002), (59, 1001), (59, 1002), (60, 1001), (60, 1002), (62, 1001), (62, 1002)]
  | 6 => [(49, 17), (49, 22), (49, 23), (49, 35), (49, 36), (49, 1002), (59, 1001), (59, 1002), (60, 1001), (60, 1002), (71, 1001), (71, 1002)]
  | 7 => [(49, 6), (49, 1002), (55, 1001), (55, 1002)]
  | 8 => [(49, 39), (49, 40), (49, 1002), (74, 1001), (74, 1002), (75, 1001), (75, 1002)]
  | 9 => [(49, 17), (49, 22), (49, 26), (49, 27), (49, 28), (49, 29), (49, 1002), (59, 1001), (59, 1002), (63, 1001), (63, 1002), (64, 1001), (64, 1002), (65, 1001), (65, 1002)]
  | 10 => [(6, 1), (6, 1002), (8, 1001), (8, 1002), (49, 67), (49, 1002), (96, 1001), (96, 1002)]
  | 11 => [(6, 0), (6, 1), (6, 1002), (7, 2), (7, 1002), (8, 1001), (8, 1002), (49, 2), (49, 1002), (51, 1001), (51, 1002), (97, 2), (97, 1002)]
  | 12 => [(6, 0), (6, 1), (6, 1002), (7, 0), (7, 1), (7, 2), (7, 3), (7, 4), (7, 5), (8, 1001), (8, 1002), (10, 1001), (10, 1002), (12, 0), (12, 1), (12, 2), (13, 1001), (13, 1002), (14, 1001), (14, 1002), (15, 1001), (15, 1002), (49, 1), (49, 2), (49, 3), (49, 4), (49, 5), (49, 6), (49, 1002), (50, 1001), (50, 1002), (51, 1001), (51, 1002), (52, 1001), (52, 1002), (53, 1001), (53, 1002), (54, 1001), (54, 1002), (55, 1001), (55, 1002), (97, 0), (97, 1), (97, 2), (97, 3), (97, 4), (97, 5), (98, 1001), (98, 1002), (99, 1001), (99, 1002), (100, 0), (100, 1), (100, 2), (101, 1001), (101, 1002), (102, 1001), (102, 1002)]
  | 13 => [(6, 0), (6, 1), (6, 1002), (7, 0), (7, 1), (8, 1001), (8, 1002), (10, 1001), (10, 1002), (12, 0), (12, 1), (97, 0), (97, 1), (98, 1001), (98, 1002), (100, 0), (100, 1)]
  | 14 => [(1, 1001), (1, 1002), (2, 1001), (2, 1002), (3, 1001), (3, 1002)]
  | 15 => [(6, 0), (6, 1), (6, 2), (6, 1002), (7, 0), (7, 1), (7, 5), (8, 1001), (8, 1002), (9, 1001), (9, 1002), (10, 1001), (10, 1002), (12, 0), (12, 1), (12, 2), (14, 1001), (14, 1002), (15, 1001), (15, 1002), (16, 0), (16, 1), (16, 2), (16, 3), (16, 4), (16, 5), (16, 6), (29, 0), (29, 1), (29, 2), (29, 3), (29, 4), (29, 5), (29, 6), (29, 7), (29, 8), (29, 11), (29, 12), (30, 1001), (30, 1002), (31, 1001), (31, 1002), (32, 1001), (32, 1002), (33, 1001), (33, 1002), (34, 1001), (34, 1002), (35, 1001), (35, 1002), (39, 0), (39, 1), (39, 2), (39, 3), (39, 4), (39, 5), (39, 6), (40, 1001), (40, 1002), (41, 1001), (41, 1002), (42, 0), (42, 1), (42, 2), (43, 1001), (43, 1002), (44, 1001), (44, 1002), (45, 1001), (45, 1002), (97, 0), (97, 1), (97, 5), (98, 1001), (98, 1002), (100, 0), (100, 1), (100, 2), (101, 1001), (101, 1002), (102, 1001), (102, 1002)]
  | _ => []
-- TOKENS: what the heap is known for, by number
-- the reference's nodes
def v_n (h : MH) (m : Nat) : Int := (h_i h m 17).toInt
def v_vs (h : MH) (m : Nat) : Int := (h_i h m 35).toInt
def v_rk (h : MH) (m v : Nat) : Int := (h_i h (h_r h m 22) v).toInt
def v_bl (h : MH) (m j : Nat) : Int := (h_i h (h_r h m 23) j).toInt
def v_hp (h : MH) (m r : Nat) : Int := (h_i h (h_r h m 24) r).toInt
def v_sc (h : MH) (m r : Nat) : Int := (h_i h (h_r h m 25) r).toInt
def v_ro (h : MH) (m j : Nat) : Int := (h_i h (h_r h m 36) j).toInt
def v_rw (h : MH) (m j : Nat) : Int := (h_i h (h_r h m 6) j).toInt
def v_pa (h : MH) (m j : Nat) : Int := (h_i h (h_r h m 39) j).toInt
def v_pb (h : MH) (m j : Nat) : Int := (h_i h (h_r h m 40) j).toInt
-- (a rank's tree: its nodes below it are earlier ones, of each lesser rank one)
def p_sh (n : Int) (rk bl : Nat → Int) : Prop := ∀ v : Nat, (v : Int) < n → (0 ≤ rk v ∧ rk v ≤ 6) ∧ ∀ r : Nat, (r : Int) < rk v → 0 ≤ bl (6 * v + r) ∧ bl (6 * v + r) < n ∧ rk (bl (6 * v + r)).toNat = r
def p_rt (n : Int) (rk : Nat → Int) (x : Int) (r : Nat) : Prop := x = -1 ∨ (0 ≤ x ∧ x < n ∧ rk x.toNat = r)
def p_hp (n : Int) (rk hp : Nat → Int) : Prop := ∀ r, r < 6 → p_rt n rk (hp r) r
def p_ro (n vs : Int) (rk ro : Nat → Int) : Prop := ∀ w r : Nat, (w : Int) < vs → r < 6 → p_rt n rk (ro (6 * w + r)) r
def p_rw (rw : Nat → Int) : Prop := ∀ q, q < 16 → 0 ≤ rw (161 * q) ∧ rw (161 * q) ≤ 40
-- the class's room: slots of pasts, images, the table
def r_P (h : MH) : Nat := h_r h 16 2
def r_I (h : MH) : Nat := h_r h 16 1
def r_S (h : MH) : Nat := h_r h 16 7
def r_sl (h : MH) (k : Nat) : Nat := h_r h (r_P h) k
def r_im (h : MH) (k : Nat) : Nat := h_r h (r_I h) k
def r_no (h : MH) (k : Nat) : Nat := h_r h (r_sl h k) 0
def r_ho (h : MH) (k : Nat) : Nat := h_r h (r_no h k) 1
def r_L (h : MH) (k : Nat) : Nat := (h_k h (r_ho h k)).2
def r_T (h : MH) : Nat := (h_k h (h_r h (r_S h) 0)).2
def r_pn (h : MH) (k : Nat) : Nat := if r_sl h k = 0 then 0 else 100 + r_L h k
def r_pz (h : MH) (k : Nat) : Nat := if r_sl h k = 0 then 0 else 4000 + 16 * r_L h k
def r_qn (h : MH) (k : Nat) : Nat := if r_im h k = 0 then 0 else 20
def r_qz (h : MH) (k : Nat) : Nat := if r_im h k = 0 then 0 else 1400
def r_iu (ρ : Nat → Nat) (h : MH) (a R : Nat) : Prop := a < 16 + h_n h ∧ (ρ a = R ∨ ρ a = 0)
def r_iu2 (ρ : Nat → Nat) (h : MH) (a R R2 : Nat) : Prop := a < 16 + h_n h ∧ (ρ a = R ∨ ρ a = R2 ∨ ρ a = 0)
-- what a table's doublings have cost
def r_tz (n : Nat) : Nat := 2 * 2 ^ Nat.log2 n
def t_rm (ρ : Nat → Nat) (h : MH) : Prop := (r_iu ρ h 16 6 ∧ r_iu ρ h (r_P h) 9 ∧ r_iu ρ h (r_I h) 8 ∧ r_iu ρ h (r_S h) 25 ∧ h_r h (r_S h) 0 < 16 + h_n h ∧ (∀ a, ρ a = 6 → a = 16) ∧ ∀ a, ρ a = 25 → a = r_S h) ∧ (∀ k, k < 4 → r_sl h k = 0 ∨ (r_iu2 ρ h (r_sl h k) 29 47 ∧ r_iu2 ρ h (r_no h k) 39 48 ∧ r_ho h k < 16 + h_n h)) ∧ (∀ a, ρ a = 39 ∨ ρ a = 48 → ∃ k, k < 4 ∧ r_sl h k ≠ 0 ∧ a = r_no h k) ∧ h_n h ≤ 1000 + (r_pn h 0 + (r_pn h 1 + (r_pn h 2 + r_pn h 3))) + (r_qn h 0 + (r_qn h 1 + r_qn h 2)) + r_T h ∧ h_z h ≤ 400000 + (r_pz h 0 + (r_pz h 1 + (r_pz h 2 + r_pz h 3))) + (r_qz h 0 + (r_qz h 1 + r_qz h 2)) + r_tz (r_T h)
def t_nd (ρ : Nat → Nat) (h : MH) : Prop := ∀ a, (ρ a = 39 ∨ ρ a = 48) → 7 * (h_k h (h_r h a 1)).2 = (h_k h (h_r h a 0)).2 ∧ (h_i h a 5).toInt ≤ (h_k h (h_r h a 1)).2
-- what the walk leaves: its nodes, each behind what it hangs on
def w_X (n : Int) (rk At Up D : Nat → Int) (w : Nat) : Prop := ∀ i, i < w → (0 ≤ At i ∧ At i < n ∧ rk (At i).toNat ≤ 5) ∧ ((Up i = -1 ∧ D i = 0) ∨ (0 ≤ Up i ∧ Up i < i ∧ D i = D (Up i).toNat + 1))
def v_wd (h : MH) (m : Nat) : Int := (h_i h m 26).toInt
def v_at (h : MH) (m j : Nat) : Int := (h_i h (h_r h m 27) j).toInt
def v_dp (h : MH) (m j : Nat) : Int := (h_i h (h_r h m 28) j).toInt
def v_up (h : MH) (m j : Nat) : Int := (h_i h (h_r h m 29) j).toInt
def v_ke (h : MH) (m j : Nat) : Int := (h_i h (h_r h m 67) j).toInt
-- there is one reference
def t_um (ρ : Nat → Nat) : Prop := ∀ m m' : Nat, ρ m = 49 → ρ m' = 49 → m = m'
-- an image is there just where the reference keeps one
def t_ik (ρ : Nat → Nat) (h : MH) : Prop := ρ 16 = 6 ∧ t_um ρ ∧ ∀ m, ρ m = 49 → ∀ k, k < 3 → (r_im h k = 0 ↔ v_ke h m k = 0)
-- how much of the tape is used: the class's, the reference's
def u_now (h : MH) : Int := (h_i h (h_r h 16 0) 2).toInt
def u_im (h : MH) (k : Nat) : Int := (h_i h (r_im h k) 2).toInt
def v_sz (h : MH) (m j : Nat) : Int := (h_i h (h_r h m 2) j).toInt
def im_ne (h : MH) : Prop := ∀ j k, j < 3 → k < 3 → j ≠ k → r_im h j ≠ 0 → r_im h j ≠ r_im h k
def us_ok (h : MH) (m : Nat) : Prop := u_now h = v_sz h m 0 ∧ ∀ k, k < 3 → r_im h k ≠ 0 → u_im h k = v_sz h m (k + 1)
def t_us (ρ : Nat → Nat) (h : MH) : Prop := ρ 16 = 6 ∧ t_um ρ ∧ im_ne h ∧ ∀ m, ρ m = 49 → us_ok h m
-- WHAT IS TOLD: the class's objects, the reference's rows (tokens 12, 13)
def q_tp (h : MH) (a j : Nat) : Int := (h_i h (h_r h a 0) j).toInt
def q_ac (h : MH) (a r : Nat) : Nat := h_r h (h_r h a 1) r
def q_fd (h : MH) (a K : Nat) : Int := (h_i h a K).toInt
def q_kd (h : MH) (c k : Nat) : Int := (h_i h (h_r h c 0) k).toInt
def q_nm (h : MH) (c k : Nat) : Int := (h_i h (h_r h c 1) k).toInt
def q_vm (h : MH) (m K : Nat) (j : Nat) : Int := (h_i h (h_r h m K) j).toInt
def ac_rel (h : MH) (c : Nat) (U : Nat → Int) (b : Nat) : Prop := q_fd h c 2 = U b ∧ ∀ k : Nat, (k : Int) < q_fd h c 2 → q_kd h c k = U (b + 1 + 4 * k) ∧ ∀ i, i < 3 → q_nm h c (3 * k + i) = U (b + 2 + 4 * k + i)
def td_rel (h : MH) (a m s : Nat) : Prop := (q_fd h a 2 = q_vm h m 2 s ∧ q_fd h a 3 = q_vm h m 3 s ∧ q_fd h a 4 = q_vm h m 4 s ∧ q_fd h a 5 = q_vm h m 5 s) ∧ (∀ j : Nat, (j : Int) < q_fd h a 2 → q_tp h a j = q_vm h m 1 (600 * s + j)) ∧ ∀ r : Nat, (r : Int) < q_fd h a 5 → ac_rel h (q_ac h a r) (q_vm h m 6) (644 * s + 161 * r)
def t_rt (ρ : Nat → Nat) (h : MH) : Prop := ρ 16 = 6 ∧ t_um ρ ∧ ∀ m, ρ m = 49 → td_rel h (h_r h 16 0) m 0 ∧ ∀ k, k < 3 → r_im h k ≠ 0 → td_rel h (r_im h k) m (k + 1)
-- rows of acts, apart
def ow_ne (h : MH) (a b : Nat) : Prop := ∀ r s, r < 4 → s < 4 → (a ≠ b ∨ r ≠ s) → q_ac h a r ≠ q_ac h b s ∧ h_r h (q_ac h a r) 0 ≠ h_r h (q_ac h b s) 0 ∧ h_r h (q_ac h a r) 1 ≠ h_r h (q_ac h b s) 1
def t_ow (ρ : Nat → Nat) (h : MH) : Prop := ρ 16 = 6 ∧ ow_ne h (h_r h 16 0) (h_r h 16 0) ∧ ∀ j k, j < 3 → k < 3 → r_im h j ≠ 0 → r_im h k ≠ 0 → ow_ne h (r_im h j) (r_im h k) ∧ (j ≠ k → r_im h j ≠ r_im h k ∧ h_r h (r_im h j) 0 ≠ h_r h (r_im h k) 0)
def rd_nm (k : Nat) : List Int := match k with
  | 0 => [110, 101, 119]
  | 1 => [112, 117, 116]
  | 2 => [109, 101, 108, 100]
  | 3 => [108, 101, 115, 115]
  | 4 => [108, 111, 119, 101, 114]
  | 5 => [99, 117, 116]
  | _ => []
def nm_ok (h : MH) (o v : Nat) (l : List Int) : Prop := (h_k h o).1 = 40 ∧ h_r h o 0 = v ∧ h_i h o 1 = 0 ∧ h_k h v = (21, l.length) ∧ l.length ≤ 5 ∧ ∀ i, i < l.length → (h_i h v i).toInt = l.getD i 0 ∧ 0 ≤ l.getD i 0 ∧ l.getD i 0 ≤ 127
def sb_ok (h : MH) : Prop := ∀ k, k < 6 → nm_ok h (2 + k) (8 + k) (rd_nm k)
def lm_at (j : Nat) : Int := [-1, -1, -1, 40, 99, -1, 40, 40, -1, 40, -1, -1, 40, 39, 99, 40, 99, -1].getD j 0
def lim_ok (h : MH) : Prop := h_k h 1 = (20, 18) ∧ ∀ j, j < 18 → (h_i h 1 j).toInt = lm_at j
-- strings and limits, as they stand
def t_sb (ρ : Nat → Nat) (h : MH) : Prop := (∀ k, k < 6 → ρ (2 + k) = 2 ∧ ρ (8 + k) = 3) ∧ ρ 1 = 1 ∧ sb_ok h ∧ lim_ok h
-- THE CLASS'S PASTS (token 15): they stand apart; a row's past is the run of its acts; acts are in their limits
def ac_T (h : MH) (c : Nat) (j : Nat) : Int := if j % 4 = 0 then q_kd h c (j / 4) else q_nm h c (3 * (j / 4) + (j % 4 - 1))
def ac_N (h : MH) (c : Nat) : Nat := (q_fd h c 2).toNat
def ac_Y (h : MH) (c : Nat) : RYt := (ry_run (ac_T h c) (ac_N h c)).1
def av_c (h : MH) (c : Nat) : Prop := ∀ k : Nat, (k : Int) < q_fd h c 2 → av_2 (ac_T h c) k
def av_t (h : MH) (a : Nat) : Prop := ∀ r : Nat, (r : Int) < q_fd h a 5 → av_c h (q_ac h a r)
def z_i (h : MH) (a j : Nat) : Int := (h_i h a j).toInt
def cs_of (h0 : MH) (H : Nat → Nat → Int) (nd : Nat) (S : PSt) : Prop := H nd 5 = (ps_n S : Int) ∧ H nd 6 = ps_l S ∧ (0 ≤ ps_l S ∧ ps_l S ≤ (ps_n S : Int)) ∧ ps_n S ≤ 16000 ∧ ∀ v : Nat, v < ps_n S → H (h_r h0 nd 0) (7 * v) = 128 * ps_y S v + ps_t S v ∧ (0 ≤ ps_t S v ∧ ps_t S v ≤ 127) ∧ (0 ≤ ps_y S v ∧ ps_y S v ≤ 99) ∧ H (h_r h0 nd 0) (7 * v + 1) = ps_k S v ∧ (0 ≤ ps_k S v ∧ ps_k S v ≤ 5) ∧ ∀ r : Nat, (r : Int) < ps_k S v → H (h_r h0 nd 0) (7 * v + 2 + ((ps_k S v).toNat - 1 - r)) = ps_b S (6 * v + r)
-- who holds a node: versions, one after the other, each over its walk
def hd_w (O : WKt) (x : Int64) : Nat → (Nat → Int64) → Nat → Int64
  | 0, L => L
  | i + 1, L => fun j => if j = (O.2.1 i).toNat then hd_w O x i L j ||| x else hd_w O x i L j
def hd_n (S : PSt) (f : Int → Nat → Int) (L : Nat → Int64) : Nat → Nat → Int64
  | 0 => L
  | u + 1 => hd_w (wk_all S (f (u : Int))) (bt (u : Int)) (wk_all S (f (u : Int))).1 (hd_n S f L u)
def hd_Y (Y : RYt) : Nat → Int64 := hd_n (ry_s Y) (ry_h Y) (fun _ => Int64.ofNat (0 : Fin 2).val) (ry_v Y)
def hd_0 (h : MH) (pa : Nat) (Y : RYt) : Prop := ∀ j : Nat, j < ps_n (ry_s Y) → h_l h (h_r h (h_r h pa 0) 1) j = hd_Y Y j
-- of a past its nodes, things, roots
def pn_0 (h : MH) (pa : Nat) (Y : RYt) : Prop := (∃ l, cs_of h (z_i h) (h_r h pa 0) (ps_le (ry_s Y) l)) ∧ z_i h pa 12 = ry_t Y ∧ ∀ v : Nat, v < ry_v Y → ∀ r, r < 6 → z_i h (pa_w h pa (18 + v)) r = ry_h Y (v : Int) r
def bk_0 (h : MH) (pa : Nat) (Y : RYt) : Prop := ((h_i h pa 11).toInt + 1 = (ry_v Y : Int) ∧ 1 ≤ ry_v Y ∧ ry_v Y ≤ 41) ∧ (∀ v : Nat, v < ry_v Y → (h_i h (pa_w h pa 12) v).toInt = (p_ws (ry_h Y v) 6 : Int)) ∧ (∀ k : Nat, k + 1 < ry_v Y → (h_i h (pa_w h pa 13) k).toInt = ry_m Y k ∧ (h_i h (pa_w h pa 14) k).toInt = ry_l Y k ∧ (h_i h (pa_w h pa 15) k).toInt = ry_pd Y k) ∧ (∀ v : Nat, v < ry_v Y → (h_i h (pa_w h pa 16) v).toInt = ry_a Y v ∧ (h_i h (pa_w h pa 17) v).toInt = ry_b Y v) ∧ (fro_of (h_l h (h_r h (h_r h pa 1) 2)) Y ∧ hd_0 h pa Y) ∧ pn_0 h pa Y
def pl_o (h : MH) (pa : Nat) : Prop := ∀ i j, i < 59 → j < 59 → i ≠ 11 → j ≠ 11 → i ≠ j → pa_w h pa i ≠ pa_w h pa j
def pl_x (h : MH) (pa pb : Nat) : Prop := pa ≠ pb ∧ h_r h pa 0 ≠ h_r h pb 0 ∧ h_r h (h_r h pa 0) 4 ≠ h_r h (h_r h pb 0) 4 ∧ h_r h (h_r h pa 1) 2 ≠ h_r h (h_r h pb 1) 2 ∧ (∀ i j, i < 59 → j < 59 → i ≠ 11 → j ≠ 11 → pa_w h pa i ≠ pa_w h pb j) ∧ h_r h (h_r h pa 0) 0 ≠ h_r h (h_r h pb 0) 0 ∧ h_r h (h_r h pa 0) 1 ≠ h_r h (h_r h pb 0) 1
def pl_t (h : MH) : Prop := ∀ k, k < 4 → r_sl h k ≠ 0 → pl_o h (r_sl h k) ∧ ∀ j, j < 4 → j ≠ k → r_sl h j ≠ 0 → pl_x h (r_sl h k) (r_sl h j)
def pb_t (h : MH) : Prop := ∀ r : Nat, (r : Int) < q_fd h (h_r h 16 0) 5 → r_sl h r ≠ 0 ∧ bk_0 h (r_sl h r) (ac_Y h (q_ac h (h_r h 16 0) r))
def t_pk (ρ : Nat → Nat) (h : MH) : Prop := ρ 16 = 6 ∧ pl_t h ∧ pb_t h ∧ av_t h (h_r h 16 0) ∧ ∀ k, k < 3 → r_im h k ≠ 0 → av_t h (r_im h k)
def c_PT (t : Nat) (ρ : Nat → Nat) (h : MH) : Prop := match t with
  | 1 => t_nd ρ h
  | 2 => t_rm ρ h
  | 3 => t_um ρ ∧ ∀ m, ρ m = 49 → p_sh (v_n h m) (v_rk h m) (v_bl h m)
  | 4 => t_um ρ ∧ ∀ m, ρ m = 49 → p_hp (v_n h m) (v_rk h m) (v_hp h m)
  | 5 => t_um ρ ∧ ∀ m, ρ m = 49 → p_hp (v_n h m) (v_rk h m) (v_sc h m)
  | 6 => t_um ρ ∧ ∀ m, ρ m = 49 → p_ro (v_n h m) (v_vs h m) (v_rk h m) (v_ro h m)
  | 7 => t_um ρ ∧ ∀ m, ρ m = 49 → p_rw (v_rw h m)
  | 8 => t_um ρ ∧ ∀ m, ρ m = 49 → v_pa h m 0 = -1 ∧ v_pb h m 0 = -1
  | 9 => t_um ρ ∧ ∀ m, ρ m = 49 → w_X (v_n h m) (v_rk h m) (v_at h m) (v_up h m) (v_dp h m) (v_wd h m).toNat
  | 10 => t_ik ρ h
  | 11 => t_us ρ h
  | 12 => t_rt ρ h
  | 13 => t_ow ρ h
  | 14 => t_sb ρ h
  | 15 => t_pk ρ h
  | _ => True
-- frames keep them
section
variable {ρ ρ' : Nat → Nat} {W : List (Nat × Nat)} {h h' : MH}
theorem fq_m {D : List (Nat × Nat)} {R m : Nat} (f : FQ ρ ρ' W h h') (ht : TH c_sp ρ h) (hn : d_no D W = true) (hR : R ≠ 0) (hd : (R, 1002) ∈ D) (hm : ρ' m = R) : ρ m = R ∧ m < 16 + h_n h := by
  by_cases h0 : ρ m = 0
  · have := (f.2.2.1 m h0 (by rw [hm]; exact hR)).2
    rw [hm] at this
    exact absurd this (d_noN hn hd)
  · have := f.2.1 m h0
    exact ⟨this.symm.trans hm, (ht.2 m h0).1⟩
-- one field, one row's element, as they were
theorem fq_f {D : List (Nat × Nat)} {R m k : Nat} (f : FQ ρ ρ' W h h') (hn : d_no D W = true) (hd : (R, k) ∈ D) (hk : k ≠ 1002) (hm : ρ m = R) (hl : m < 16 + h_n h) : h_i h' m k = h_i h m k ∧ h_r h' m k = h_r h m k := by
  have := (f.2.2.2 m hl).2 k (by rw [hm]; exact d_noW hn hd hk)
  exact ⟨this.1, this.2.2⟩
theorem fq_e {D : List (Nat × Nat)} {R m : Nat} (k : Nat) (f : FQ ρ ρ' W h h') (hn : d_no D W = true) (hd : (R, 1001) ∈ D) (hd2 : (R, 1002) ∈ D) (hm : ρ m = R) (hl : m < 16 + h_n h) : h_i h' m k = h_i h m k ∧ h_r h' m k = h_r h m k := by
  have hw : ¬ t_W W (ρ m) k := by
    rw [hm]
    by_cases hk : k = 1002
    · intro z
      rcases z with z | z
      · rw [hk] at z
        exact d_noN hn hd2 z
      · exact d_noW hn hd (by decide) (Or.inr z)
    · rcases d_noE (k := k) hn hd with z | z
      · exact z
      · exact absurd z hk
  have := (f.2.2.2 m hl).2 k hw
  exact ⟨this.1, this.2.2⟩
end
-- a reference field's target
theorem th_rf {ρ : Nat → Nat} {h : MH} {R m k R2 : Nat} {rs : RS} (ht : TH c_sp ρ h) (hR : R ≠ 0) (hsp : c_sp[R]? = some rs) (hm : ρ m = R) (hf : r_ft rs k = some (.inr (.inr (R2, true)))) (hk : rs.2.2.1 = true → k < (h_k h m).2) : h_r h m k ≠ 0 ∧ ρ (h_r h m k) = R2 := t_nn ((t_spec ht hR hsp hm).2.2.2 k _ hf hk)
theorem fq_arr {ρ ρ' : Nat → Nat} {W D : List (Nat × Nat)} {h h' : MH} {R m k R2 : Nat} {rs : RS} (f : FQ ρ ρ' W h h') (ht : TH c_sp ρ h) (hn : d_no D W = true) (hR : R ≠ 0) (hsp : c_sp[R]? = some rs) (hf : r_ft rs k = some (.inr (.inr (R2, true)))) (hna : rs.2.2.1 = false) (d1 : (R, k) ∈ D) (hk : k ≠ 1002) (d2 : (R2, 1001) ∈ D) (d3 : (R2, 1002) ∈ D) (hR2 : R2 ≠ 0) (hm : ρ m = R) (hl : m < 16 + h_n h) (j : Nat) : h_i h' (h_r h' m k) j = h_i h (h_r h m k) j := by
  obtain ⟨-, hr⟩ := th_rf ht hR hsp hm hf (fun z => by rw [hna] at z; cases z)
  rw [(fq_f f hn d1 hk hm hl).2]
  exact (fq_e j f hn d2 d3 hr (ht.2 _ (by rw [hr]; exact hR2)).1).1
theorem c_PT3 {ρ ρ' : Nat → Nat} {W : List (Nat × Nat)} {h h' : MH} (ht : TH c_sp ρ h) (f : FQ ρ ρ' W h h') (hn : d_no (c_dep 3) W = true) (k : c_PT 3 ρ h) : c_PT 3 ρ' h' := ⟨fun m m' e e' => k.1 m m' (fq_m f ht hn (by decide) (show (49, 1002) ∈ c_dep 3 by decide) e).1 (fq_m f ht hn (by decide) (show (49, 1002) ∈ c_dep 3 by decide) e').1, fun m hm' => by
  obtain ⟨hm, hl⟩ := fq_m f ht hn (by decide) (show (49, 1002) ∈ c_dep 3 by decide) hm'
  have k := k.2 m hm
  have e_n : v_n h' m = v_n h m := congrArg Int32.toInt (fq_f f hn (show (49, 17) ∈ c_dep 3 by decide) (by decide) hm hl).1
  have e_rk : v_rk h' m = v_rk h m := funext (fun j => congrArg Int32.toInt (fq_arr f ht hn (by decide) rfl rfl rfl (show (49, 22) ∈ c_dep 3 by decide) (by decide) (show (59, 1001) ∈ c_dep 3 by decide) (show (59, 1002) ∈ c_dep 3 by decide) (by decide) hm hl j))
  have e_bl : v_bl h' m = v_bl h m := funext (fun j => congrArg Int32.toInt (fq_arr f ht hn (by decide) rfl rfl rfl (show (49, 23) ∈ c_dep 3 by decide) (by decide) (show (60, 1001) ∈ c_dep 3 by decide) (show (60, 1002) ∈ c_dep 3 by decide) (by decide) hm hl j))
  rw [e_n, e_rk, e_bl]
  exact k⟩
theorem c_PT4 {ρ ρ' : Nat → Nat} {W : List (Nat × Nat)} {h h' : MH} (ht : TH c_sp ρ h) (f : FQ ρ ρ' W h h') (hn : d_no (c_dep 4) W = true) (k : c_PT 4 ρ h) : c_PT 4 ρ' h' := ⟨fun m m' e e' => k.1 m m' (fq_m f ht hn (by decide) (show (49, 1002) ∈ c_dep 4 by decide) e).1 (fq_m f ht hn (by decide) (show (49, 1002) ∈ c_dep 4 by decide) e').1, fun m hm' => by
  obtain ⟨hm, hl⟩ := fq_m f ht hn (by decide) (show (49, 1002) ∈ c_dep 4 by decide) hm'
  have k := k.2 m hm
  have e_n : v_n h' m = v_n h m := congrArg Int32.toInt (fq_f f hn (show (49, 17) ∈ c_dep 4 by decide) (by decide) hm hl).1
  have e_rk : v_rk h' m = v_rk h m := funext (fun j => congrArg Int32.toInt (fq_arr f ht hn (by decide) rfl rfl rfl (show (49, 22) ∈ c_dep 4 by decide) (by decide) (show (59, 1001) ∈ c_dep 4 by decide) (show (59, 1002) ∈ c_dep 4 by decide) (by decide) hm hl j))
  have e_hp : v_hp h' m = v_hp h m := funext (fun j => congrArg Int32.toInt (fq_arr f ht hn (by decide) rfl rfl rfl (show (49, 24) ∈ c_dep 4 by decide) (by decide) (show (61, 1001) ∈ c_dep 4 by decide) (show (61, 1002) ∈ c_dep 4 by decide) (by decide) hm hl j))
  rw [e_n, e_rk, e_hp]
  exact k⟩
theorem c_PT5 {ρ ρ' : Nat → Nat} {W : List (Nat × Nat)} {h h' : MH} (ht : TH c_sp ρ h) (f : FQ ρ ρ' W h h') (hn : d_no (c_dep 5) W = true) (k : c_PT 5 ρ h) : c_PT 5 ρ' h' := ⟨fun m m' e e' => k.1 m m' (fq_m f ht hn (by decide) (show (49, 1002) ∈ c_dep 5 by decide) e).1 (fq_m f ht hn (by decide) (show (49, 1002) ∈ c_dep 5 by decide) e').1, fun m hm' => by
  obtain ⟨hm, hl⟩ := fq_m f ht hn (by decide) (show (49, 1002) ∈ c_dep 5 by decide) hm'
  have k := k.2 m hm
  have e_n : v_n h' m = v_n h m := congrArg Int32.toInt (fq_f f hn (show (49, 17) ∈ c_dep 5 by decide) (by decide) hm hl).1
  have e_rk : v_rk h' m = v_rk h m := funext (fun j => congrArg Int32.toInt (fq_arr f ht hn (by decide) rfl rfl rfl (show (49, 22) ∈ c_dep 5 by decide) (by decide) (show (59, 1001) ∈ c_dep 5 by decide) (show (59, 1002) ∈ c_dep 5 by decide) (by decide) hm hl j))
  have e_sc : v_sc h' m = v_sc h m := funext (fun j => congrArg Int32.toInt (fq_arr f ht hn (by decide) rfl rfl rfl (show (49, 25) ∈ c_dep 5 by decide) (by decide) (show (62, 1001) ∈ c_dep 5 by decide) (show (62, 1002) ∈ c_dep 5 by decide) (by decide) hm hl j))
  rw [e_n, e_rk, e_sc]
  exact k⟩
theorem c_PT6 {ρ ρ' : Nat → Nat} {W : List (Nat × Nat)} {h h' : MH} (ht : TH c_sp ρ h) (f : FQ ρ ρ' W h h') (hn : d_no (c_dep 6) W = true) (k : c_PT 6 ρ h) : c_PT 6 ρ' h' := ⟨fun m m' e e' => k.1 m m' (fq_m f ht hn (by decide) (show (49, 1002) ∈ c_dep 6 by decide) e).1 (fq_m f ht hn (by decide) (show (49, 1002) ∈ c_dep 6 by decide) e').1, fun m hm' => by
  obtain ⟨hm, hl⟩ := fq_m f ht hn (by decide) (show (49, 1002) ∈ c_dep 6 by decide) hm'
  have k := k.2 m hm
  have e_n : v_n h' m = v_n h m := congrArg Int32.toInt (fq_f f hn (show (49, 17) ∈ c_dep 6 by decide) (by decide) hm hl).1
  have e_vs : v_vs h' m = v_vs h m := congrArg Int32.toInt (fq_f f hn (show (49, 35) ∈ c_dep 6 by decide) (by decide) hm hl).1
  have e_rk : v_rk h' m = v_rk h m := funext (fun j => congrArg Int32.toInt (fq_arr f ht hn (by decide) rfl rfl rfl (show (49, 22) ∈ c_dep 6 by decide) (by decide) (show (59, 1001) ∈ c_dep 6 by decide) (show (59, 1002) ∈ c_dep 6 by decide) (by decide) hm hl j))
  have e_ro : v_ro h' m = v_ro h m := funext (fun j => congrArg Int32.toInt (fq_arr f ht hn (by decide) rfl rfl rfl (show (49, 36) ∈ c_dep 6 by decide) (by decide) (show (71, 1001) ∈ c_dep 6 by decide) (show (71, 1002) ∈ c_dep 6 by decide) (by decide) hm hl j))
  rw [e_n, e_vs, e_rk, e_ro]
  exact k⟩
theorem c_PT7 {ρ ρ' : Nat → Nat} {W : List (Nat × Nat)} {h h' : MH} (ht : TH c_sp ρ h) (f : FQ ρ ρ' W h h') (hn : d_no (c_dep 7) W = true) (k : c_PT 7 ρ h) : c_PT 7 ρ' h' := ⟨fun m m' e e' => k.1 m m' (fq_m f ht hn (by decide) (show (49, 1002) ∈ c_dep 7 by decide) e).1 (fq_m f ht hn (by decide) (show (49, 1002) ∈ c_dep 7 by decide) e').1, fun m hm' => by
  obtain ⟨hm, hl⟩ := fq_m f ht hn (by decide) (show (49, 1002) ∈ c_dep 7 by decide) hm'
  have k := k.2 m hm
  have e_rw : v_rw h' m = v_rw h m := funext (fun j => congrArg Int32.toInt (fq_arr f ht hn (by decide) rfl rfl rfl (show (49, 6) ∈ c_dep 7 by decide) (by decide) (show (55, 1001) ∈ c_dep 7 by decide) (show (55, 1002) ∈ c_dep 7 by decide) (by decide) hm hl j))
  rw [e_rw]
  exact k⟩
theorem c_PT8 {ρ ρ' : Nat → Nat} {W : List (Nat × Nat)} {h h' : MH} (ht : TH c_sp ρ h) (f : FQ ρ ρ' W h h') (hn : d_no (c_dep 8) W = true) (k : c_PT 8 ρ h) : c_PT 8 ρ' h' := ⟨fun m m' e e' => k.1 m m' (fq_m f ht hn (by decide) (show (49, 1002) ∈ c_dep 8 by decide) e).1 (fq_m f ht hn (by decide) (show (49, 1002) ∈ c_dep 8 by decide) e').1, fun m hm' => by
  obtain ⟨hm, hl⟩ := fq_m f ht hn (by decide) (show (49, 1002) ∈ c_dep 8 by decide) hm'
  have k := k.2 m hm
  have e_pa : v_pa h' m = v_pa h m := funext (fun j => congrArg Int32.toInt (fq_arr f ht hn (by decide) rfl rfl rfl (show (49, 39) ∈ c_dep 8 by decide) (by decide) (show (74, 1001) ∈ c_dep 8 by decide) (show (74, 1002) ∈ c_dep 8 by decide) (by decide) hm hl j))
  have e_pb : v_pb h' m = v_pb h m := funext (fun j => congrArg Int32.toInt (fq_arr f ht hn (by decide) rfl rfl rfl (show (49, 40) ∈ c_dep 8 by decide) (by decide) (show (75, 1001) ∈ c_dep 8 by decide) (show (75, 1002) ∈ c_dep 8 by decide) (by decide) hm hl j))
  rw [e_pa, e_pb]
  exact k⟩
theorem c_PT9 {ρ ρ' : Nat → Nat} {W : List (Nat × Nat)} {h h' : MH} (ht : TH c_sp ρ h) (f : FQ ρ ρ' W h h') (hn : d_no (c_dep 9) W = true) (k : c_PT 9 ρ h) : c_PT 9 ρ' h' := ⟨fun m m' e e' => k.1 m m' (fq_m f ht hn (by decide) (show (49, 1002) ∈ c_dep 9 by decide) e).1 (fq_m f ht hn (by decide) (show (49, 1002) ∈ c_dep 9 by decide) e').1, fun m hm' => by
  obtain ⟨hm, hl⟩ := fq_m f ht hn (by decide) (show (49, 1002) ∈ c_dep 9 by decide) hm'
  have k := k.2 m hm
  have e_n : v_n h' m = v_n h m := congrArg Int32.toInt (fq_f f hn (show (49, 17) ∈ c_dep 9 by decide) (by decide) hm hl).1
  have e_wd : v_wd h' m = v_wd h m := congrArg Int32.toInt (fq_f f hn (show (49, 26) ∈ c_dep 9 by decide) (by decide) hm hl).1
  have e_rk : v_rk h' m = v_rk h m := funext (fun j => congrArg Int32.toInt (fq_arr f ht hn (by decide) rfl rfl rfl (show (49, 22) ∈ c_dep 9 by decide) (by decide) (show (59, 1001) ∈ c_dep 9 by decide) (show (59, 1002) ∈ c_dep 9 by decide) (by decide) hm hl j))
  have e_at : v_at h' m = v_at h m := funext (fun j => congrArg Int32.toInt (fq_arr f ht hn (by decide) rfl rfl rfl (show (49, 27) ∈ c_dep 9 by decide) (by decide) (show (63, 1001) ∈ c_dep 9 by decide) (show (63, 1002) ∈ c_dep 9 by decide) (by decide) hm hl j))
  have e_dp : v_dp h' m = v_dp h m := funext (fun j => congrArg Int32.toInt (fq_arr f ht hn (by decide) rfl rfl rfl (show (49, 28) ∈ c_dep 9 by decide) (by decide) (show (64, 1001) ∈ c_dep 9 by decide) (show (64, 1002) ∈ c_dep 9 by decide) (by decide) hm hl j))
  have e_up : v_up h' m = v_up h m := funext (fun j => congrArg Int32.toInt (fq_arr f ht hn (by decide) rfl rfl rfl (show (49, 29) ∈ c_dep 9 by decide) (by decide) (show (65, 1001) ∈ c_dep 9 by decide) (show (65, 1002) ∈ c_dep 9 by decide) (by decide) hm hl j))
  rw [e_n, e_rk, e_at, e_up, e_dp, e_wd]
  exact k⟩
theorem c_PT1 {ρ ρ' : Nat → Nat} {W : List (Nat × Nat)} {h h' : MH} (ht : TH c_sp ρ h) (f : FQ ρ ρ' W h h') (hn : d_no (c_dep 1) W = true) (k : t_nd ρ h) : t_nd ρ' h' := fun a ha' => by
  have key : ∀ R, (R = 39 ∨ R = 48) → ρ' a = R → ρ a = R ∧ a < 16 + h_n h := fun R hR e => by
    rcases hR with rfl | rfl
    · exact fq_m f ht hn (by decide) (show (39, 1002) ∈ c_dep 1 by decide) e
    · exact fq_m f ht hn (by decide) (show (48, 1002) ∈ c_dep 1 by decide) e
  have hall : (ρ a = 39 ∨ ρ a = 48) ∧ a < 16 + h_n h ∧ h_r h' a 0 = h_r h a 0 ∧ h_r h' a 1 = h_r h a 1 ∧ h_i h' a 5 = h_i h a 5 ∧ ρ (h_r h a 0) = 40 ∧ ρ (h_r h a 1) = 41 := by
    rcases ha' with e | e
    · obtain ⟨hm, hl⟩ := key _ (Or.inl rfl) e
      exact ⟨Or.inl hm, hl, (fq_f f hn (show (39, 0) ∈ c_dep 1 by decide) (by decide) hm hl).2, (fq_f f hn (show (39, 1) ∈ c_dep 1 by decide) (by decide) hm hl).2, (fq_f f hn (show (39, 5) ∈ c_dep 1 by decide) (by decide) hm hl).1, (th_rf ht (by decide) rfl hm rfl (fun z => by cases z)).2, (th_rf ht (by decide) rfl hm rfl (fun z => by cases z)).2⟩
    · obtain ⟨hm, hl⟩ := key _ (Or.inr rfl) e
      exact ⟨Or.inr hm, hl, (fq_f f hn (show (48, 0) ∈ c_dep 1 by decide) (by decide) hm hl).2, (fq_f f hn (show (48, 1) ∈ c_dep 1 by decide) (by decide) hm hl).2, (fq_f f hn (show (48, 5) ∈ c_dep 1 by decide) (by decide) hm hl).1, (th_rf ht (by decide) rfl hm rfl (fun z => by cases z)).2, (th_rf ht (by decide) rfl hm rfl (fun z => by cases z)).2⟩
  obtain ⟨h0, hl, e1, e2, e3, r1, r2⟩ := hall
  have b1 := (ht.2 (h_r h a 0) (by rw [r1]; decide)).1
  have b2 := (ht.2 (h_r h a 1) (by rw [r2]; decide)).1
  rw [e1, e2, e3, (f.2.2.2 _ b1).1, (f.2.2.2 _ b2).1]
  exact k a h0
-- the room
theorem rm_r {ρ ρ' : Nat → Nat} {W : List (Nat × Nat)} {h h' : MH} {b k R : Nat} (f : FQ ρ ρ' W h h') (hn : d_no (c_dep 2) W = true) (hb : b < 16 + h_n h) (hR : (R, k) ∈ c_dep 2) (hk : k ≠ 1002) (hρ : ρ b = R ∨ ρ b = 0) : h_r h' b k = h_r h b k := by
  have hw : ¬ t_W W (ρ b) k := by
    rcases hρ with e | e
    · rw [e]
      exact d_noW hn hR hk
    · rw [e]
      intro z
      rcases d_noE (R := 0) (k := k) hn (by decide) with y | y
      · exact y z
      · exact hk y
  exact ((f.2.2.2 b hb).2 k hw).2.2
theorem rm_e {ρ ρ' : Nat → Nat} {W : List (Nat × Nat)} {h h' : MH} {b k R : Nat} (f : FQ ρ ρ' W h h') (hn : d_no (c_dep 2) W = true) (hb : b < 16 + h_n h) (hR : (R, 1001) ∈ c_dep 2) (hk : k < 1000) (hρ : ρ b = R ∨ ρ b = 0) : h_r h' b k = h_r h b k := by
  have hw : ¬ t_W W (ρ b) k := by
    rcases hρ with e | e
    · rw [e]
      rcases d_noE (k := k) hn hR with y | y
      · exact y
      · omega
    · rw [e]
      rcases d_noE (R := 0) (k := k) hn (by decide) with y | y
      · exact y
      · omega
  exact ((f.2.2.2 b hb).2 k hw).2.2
theorem c_PT2 {ρ ρ' : Nat → Nat} {W : List (Nat × Nat)} {h h' : MH} (ht : TH c_sp ρ h) (f : FQ ρ ρ' W h h') (hn : d_no (c_dep 2) W = true) (k : t_rm ρ h) : t_rm ρ' h' := by
  obtain ⟨⟨a1, a2, a3, a4, a5⟩, b, c, d, e⟩ := k
  have e0 : h'.1 = h.1 := f.1.2 (d_noN hn (show (1000, 1002) ∈ c_dep 2 by decide))
  have en : h_n h' = h_n h := congrArg Prod.fst e0
  have ez : h_z h' = h_z h := congrArg Prod.snd e0
  have eP : r_P h' = r_P h := rm_r f hn a1.1 (R := 6) (by decide) (by decide) a1.2
  have eI : r_I h' = r_I h := rm_r f hn a1.1 (R := 6) (by decide) (by decide) a1.2
  have eS : r_S h' = r_S h := rm_r f hn a1.1 (R := 6) (by decide) (by decide) a1.2
  have eT0 : h_r h' (r_S h') 0 = h_r h (r_S h) 0 := by
    rw [eS]
    exact rm_r f hn a4.1 (R := 25) (by decide) (by decide) a4.2
  have eT : r_T h' = r_T h := by
    unfold r_T
    rw [eT0, (f.2.2.2 _ a5.1).1]
  have esl : ∀ k, k < 4 → r_sl h' k = r_sl h k := fun k hk => by
    unfold r_sl
    rw [eP]
    exact rm_e f hn a2.1 (R := 9) (by decide) (by omega) a2.2
  have eim : ∀ k, k < 4 → r_im h' k = r_im h k := fun k hk => by
    unfold r_im
    rw [eI]
    exact rm_e f hn a3.1 (R := 8) (by decide) (by omega) a3.2
  have eno : ∀ k, k < 4 → r_sl h k ≠ 0 → r_no h' k = r_no h k := fun k hk hs => by
    rcases b k hk with z | ⟨z1, z2, z3⟩
    · exact absurd z hs
    · unfold r_no
      rw [esl k hk]
      rcases z1.2 with q | q | q
      · exact rm_r f hn z1.1 (R := 29) (by decide) (by decide) (Or.inl q)
      · exact rm_r f hn z1.1 (R := 47) (by decide) (by decide) (Or.inl q)
      · exact rm_r f hn z1.1 (R := 29) (by decide) (by decide) (Or.inr q)
  have eho : ∀ k, k < 4 → r_sl h k ≠ 0 → r_ho h' k = r_ho h k ∧ r_L h' k = r_L h k := fun k hk hs => by
    rcases b k hk with z | ⟨z1, z2, z3⟩
    · exact absurd z hs
    · have e1 : r_ho h' k = r_ho h k := by
        unfold r_ho
        rw [eno k hk hs]
        rcases z2.2 with q | q | q
        · exact rm_r f hn z2.1 (R := 39) (by decide) (by decide) (Or.inl q)
        · exact rm_r f hn z2.1 (R := 48) (by decide) (by decide) (Or.inl q)
        · exact rm_r f hn z2.1 (R := 39) (by decide) (by decide) (Or.inr q)
      refine ⟨e1, ?_⟩
      unfold r_L
      rw [e1, (f.2.2.2 _ z3).1]
  have epn : ∀ k, k < 4 → r_pn h' k = r_pn h k ∧ r_pz h' k = r_pz h k := fun k hk => by
    unfold r_pn r_pz
    rw [esl k hk]
    by_cases hs : r_sl h k = 0
    · rw [if_pos hs, if_pos hs, if_pos hs, if_pos hs]
      exact ⟨rfl, rfl⟩
    · rw [if_neg hs, if_neg hs, if_neg hs, if_neg hs, (eho k hk hs).2]
      exact ⟨rfl, rfl⟩
  have eqn : ∀ k, k < 4 → r_qn h' k = r_qn h k ∧ r_qz h' k = r_qz h k := fun k hk => by
    unfold r_qn r_qz
    rw [eim k hk]
    exact ⟨rfl, rfl⟩
  have hin : ∀ {a R : Nat}, r_iu ρ h a R → r_iu ρ' h' a R := fun {a R} q => ⟨by rw [en]; exact q.1, by rw [f.same q.1]; exact q.2⟩
  have hin2 : ∀ {a R R2 : Nat}, r_iu2 ρ h a R R2 → r_iu2 ρ' h' a R R2 := fun {a R R2} q => ⟨by rw [en]; exact q.1, by rw [f.same q.1]; exact q.2⟩
  refine ⟨⟨hin a1, by rw [eP]; exact hin a2, by rw [eI]; exact hin a3, by rw [eS]; exact hin a4, by rw [eT0, en]; exact a5.1, fun a ha => a5.2.1 a (fq_m f ht hn (by decide) (show (6, 1002) ∈ c_dep 2 by decide) ha).1, fun a ha => by rw [eS]; exact a5.2.2 a (fq_m f ht hn (by decide) (show (25, 1002) ∈ c_dep 2 by decide) ha).1⟩, fun k hk => ?_, fun a ha => ?_, ?_, ?_⟩
  · by_cases hs : r_sl h k = 0
    · exact Or.inl ((esl k hk).trans hs)
    · rcases b k hk with z | ⟨z1, z2, z3⟩
      · exact absurd z hs
      · refine Or.inr ⟨by rw [esl k hk]; exact hin2 z1, by rw [eno k hk hs]; exact hin2 z2, ?_⟩
        rw [(eho k hk hs).1, en]
        exact z3
  · have ha2 : ρ a = 39 ∨ ρ a = 48 := by
      rcases ha with q | q
      · exact Or.inl (fq_m f ht hn (by decide) (show (39, 1002) ∈ c_dep 2 by decide) q).1
      · exact Or.inr (fq_m f ht hn (by decide) (show (48, 1002) ∈ c_dep 2 by decide) q).1
    obtain ⟨k, hk, hs, e9⟩ := c a ha2
    exact ⟨k, hk, by rw [esl k hk]; exact hs, by rw [eno k hk hs]; exact e9⟩
  · rw [en, (epn 0 (by decide)).1, (epn 1 (by decide)).1, (epn 2 (by decide)).1, (epn 3 (by decide)).1, (eqn 0 (by decide)).1, (eqn 1 (by decide)).1, (eqn 2 (by decide)).1, eT]
    exact d
  · rw [ez, (epn 0 (by decide)).2, (epn 1 (by decide)).2, (epn 2 (by decide)).2, (epn 3 (by decide)).2, (eqn 0 (by decide)).2, (eqn 1 (by decide)).2, (eqn 2 (by decide)).2, eT]
    exact e
theorem c_PT10 {ρ ρ' : Nat → Nat} {W : List (Nat × Nat)} {h h' : MH} (ht : TH c_sp ρ h) (f : FQ ρ ρ' W h h') (hn : d_no (c_dep 10) W = true) (k : t_ik ρ h) : t_ik ρ' h' := by
  obtain ⟨h16, um, k⟩ := k
  have l16 := (ht.2 16 (by rw [h16]; decide)).1
  have eI : r_I h' = r_I h := (fq_f f hn (show (6, 1) ∈ c_dep 10 by decide) (by decide) h16 l16).2
  have fI : ρ (r_I h) = 8 := (th_rf ht (R := 6) (by decide) rfl h16 (k := 1) rfl (fun z => by cases z)).2
  have eim : ∀ j, r_im h' j = r_im h j := fun j => by
    unfold r_im
    rw [eI]
    exact (fq_e j f hn (show (8, 1001) ∈ c_dep 10 by decide) (show (8, 1002) ∈ c_dep 10 by decide) fI (ht.2 _ (by rw [fI]; decide)).1).2
  refine ⟨(f.2.1 16 (by rw [h16]; decide)).trans h16, fun m m' e e' => um m m' (fq_m f ht hn (by decide) (show (49, 1002) ∈ c_dep 10 by decide) e).1 (fq_m f ht hn (by decide) (show (49, 1002) ∈ c_dep 10 by decide) e').1, fun m hm' j hj => ?_⟩
  obtain ⟨hm, hl⟩ := fq_m f ht hn (by decide) (show (49, 1002) ∈ c_dep 10 by decide) hm'
  have e_ke : v_ke h' m j = v_ke h m j := congrArg Int32.toInt (fq_arr f ht hn (by decide) rfl rfl rfl (show (49, 67) ∈ c_dep 10 by decide) (by decide) (show (96, 1001) ∈ c_dep 10 by decide) (show (96, 1002) ∈ c_dep 10 by decide) (by decide) hm hl j)
  rw [eim, e_ke]
  exact k m hm j hj
-- the images and their tapes, by frames
theorem us_im {ρ ρ' : Nat → Nat} {W D : List (Nat × Nat)} {h h' : MH} (ht : TH c_sp ρ h) (f : FQ ρ ρ' W h h') (h16 : ρ 16 = 6) (hn : d_no D W = true) (d1 : (6, 1) ∈ D) (d2 : (8, 1001) ∈ D) (d3 : (8, 1002) ∈ D) (d4 : (97, 2) ∈ D) : (∀ j, r_im h' j = r_im h j) ∧ ∀ j, j < 3 → r_im h j ≠ 0 → u_im h' j = u_im h j := by
  have l16 := (ht.2 16 (by rw [h16]; decide)).1
  have eI : r_I h' = r_I h := (fq_f f hn d1 (by decide) h16 l16).2
  have fI : ρ (r_I h) = 8 := (th_rf ht (R := 6) (by decide) rfl h16 (k := 1) rfl (fun z => by cases z)).2
  have eim : ∀ j, r_im h' j = r_im h j := fun j => by
    unfold r_im
    rw [eI]
    exact (fq_e j f hn d2 d3 fI (ht.2 _ (by rw [fI]; decide)).1).2
  refine ⟨eim, fun j hj h0 => ?_⟩
  unfold u_im
  rw [eim]
  have c := t_spec ht (by decide) (rfl : c_sp[8]? = some _) fI
  have l3 : 3 ≤ (h_k h (r_I h)).2 := c.2.1.1
  rcases (c.2.2.2 j (.inr (.inr (97, false))) rfl (fun _ => by omega) : t_rf ρ 97 false (r_im h j)) with q | ⟨-, -, q⟩
  · exact absurd q.1 h0
  · exact congrArg Int32.toInt (fq_f f hn d4 (by decide) q (ht.2 _ (by rw [q]; decide)).1).1
theorem us_nw {ρ ρ' : Nat → Nat} {W D : List (Nat × Nat)} {h h' : MH} (ht : TH c_sp ρ h) (f : FQ ρ ρ' W h h') (h16 : ρ 16 = 6) (hn : d_no D W = true) (d1 : (6, 0) ∈ D) : h_r h' 16 0 = h_r h 16 0 ∧ ((7, 2) ∈ D → u_now h' = u_now h) := by
  have l16 := (ht.2 16 (by rw [h16]; decide)).1
  have eN := (fq_f f hn d1 (by decide) h16 l16).2
  have fN : ρ (h_r h 16 0) = 7 := (th_rf ht (R := 6) (by decide) rfl h16 (k := 0) rfl (fun z => by cases z)).2
  refine ⟨eN, fun d2 => ?_⟩
  unfold u_now
  rw [eN]
  exact congrArg Int32.toInt (fq_f f hn d2 (by decide) fN (ht.2 _ (by rw [fN]; decide)).1).1
theorem us_sz {ρ ρ' : Nat → Nat} {W D : List (Nat × Nat)} {h h' : MH} {m : Nat} (ht : TH c_sp ρ h) (f : FQ ρ ρ' W h h') (hm : ρ m = 49) (hn : d_no D W = true) (d1 : (49, 2) ∈ D) (d2 : (51, 1001) ∈ D) (d3 : (51, 1002) ∈ D) (j : Nat) : v_sz h' m j = v_sz h m j := congrArg Int32.toInt (fq_arr f ht hn (by decide) rfl rfl rfl d1 (by decide) d2 d3 (by decide) hm (ht.2 m (by rw [hm]; decide)).1 j)
theorem c_PT11 {ρ ρ' : Nat → Nat} {W : List (Nat × Nat)} {h h' : MH} (ht : TH c_sp ρ h) (f : FQ ρ ρ' W h h') (hn : d_no (c_dep 11) W = true) (k : t_us ρ h) : t_us ρ' h' := by
  obtain ⟨h16, um, ne, k⟩ := k
  obtain ⟨e1, e2⟩ := us_im ht f h16 hn (by decide) (by decide) (by decide) (by decide)
  have e3 := (us_nw ht f h16 hn (by decide)).2 (by decide)
  refine ⟨(f.2.1 16 (by rw [h16]; decide)).trans h16, fun m m' e e' => um m m' (fq_m f ht hn (by decide) (show (49, 1002) ∈ c_dep 11 by decide) e).1 (fq_m f ht hn (by decide) (show (49, 1002) ∈ c_dep 11 by decide) e').1, fun j k hj hk hjk => ?_, fun m hm' => ?_⟩
  · rw [e1, e1]
    exact ne j k hj hk hjk
  · obtain ⟨hm, hl⟩ := fq_m f ht hn (by decide) (show (49, 1002) ∈ c_dep 11 by decide) hm'
    have e4 := us_sz (D := c_dep 11) ht f hm hn (by decide) (by decide) (by decide)
    obtain ⟨k1, k2⟩ := k m hm
    refine ⟨by rw [e3, e4]; exact k1, fun j hj h0 => ?_⟩
    rw [e1] at h0
    rw [e2 j hj h0, e4]
    exact k2 j hj h0
-- as it was
def ac_same (h h' : MH) (c : Nat) : Prop := h_i h' c 2 = h_i h c 2 ∧ (h_r h' c 0 = h_r h c 0 ∧ h_r h' c 1 = h_r h c 1) ∧ ∀ k, q_kd h' c k = q_kd h c k ∧ q_nm h' c k = q_nm h c k
def td_same (h h' : MH) (a : Nat) : Prop := (∀ K, K < 6 → h_i h' a K = h_i h a K) ∧ h_r h' a 0 = h_r h a 0 ∧ (∀ j, q_tp h' a j = q_tp h a j) ∧ ∀ r, r < 4 → q_ac h' a r = q_ac h a r ∧ ac_same h h' (q_ac h a r)
def td_refs (h h' : MH) (a : Nat) : Prop := h_r h' a 0 = h_r h a 0 ∧ ∀ r, r < 4 → q_ac h' a r = q_ac h a r ∧ h_r h' (q_ac h a r) 0 = h_r h (q_ac h a r) 0 ∧ h_r h' (q_ac h a r) 1 = h_r h (q_ac h a r) 1
def vm_same (h h' : MH) (m : Nat) : Prop := ∀ K, (K = 1 ∨ K = 2 ∨ K = 3 ∨ K = 4 ∨ K = 5 ∨ K = 6) → q_vm h' m K = q_vm h m K
section
variable {h h' : MH} {a b c m s : Nat} {U : Nat → Int}
theorem ac_sameR {q : Nat} (e : ac_same h h' c) (k : ac_rel h c U q) : ac_rel h' c U q := by
  have e2 : q_fd h' c 2 = q_fd h c 2 := congrArg Int32.toInt e.1
  refine ⟨e2.trans k.1, fun j hj => ?_⟩
  rw [e2] at hj
  obtain ⟨k1, k2⟩ := k.2 j hj
  exact ⟨(e.2.2 j).1.trans k1, fun i hi => (e.2.2 _).2.trans (k2 i hi)⟩
theorem td_sameR (e : td_same h h' a) (ev : vm_same h h' m) (r4 : q_fd h a 5 ≤ 4) (k : td_rel h a m s) : td_rel h' a m s := by
  have f : ∀ K, K < 6 → q_fd h' a K = q_fd h a K := fun K hK => congrArg Int32.toInt (e.1 K hK)
  obtain ⟨⟨k2, k3, k4, k5⟩, k6, k7⟩ := k
  refine ⟨⟨?_, ?_, ?_, ?_⟩, fun j hj => ?_, fun r hr => ?_⟩
  · rw [f 2 (by decide), ev 2 (by decide)]
    exact k2
  · rw [f 3 (by decide), ev 3 (by decide)]
    exact k3
  · rw [f 4 (by decide), ev 4 (by decide)]
    exact k4
  · rw [f 5 (by decide), ev 5 (by decide)]
    exact k5
  · rw [f 2 (by decide)] at hj
    rw [e.2.2.1 j, ev 1 (by decide)]
    exact k6 j hj
  · rw [f 5 (by decide)] at hr
    obtain ⟨e1, e2⟩ := e.2.2.2 r (by omega)
    rw [e1, ev 6 (by decide)]
    exact ac_sameR e2 (k7 r hr)
theorem ow_sameR (ea : td_refs h h' a) (eb : td_refs h h' b) (k : ow_ne h a b) : ow_ne h' a b := fun r s hr hs hn => by
  obtain ⟨a1, a2, a3⟩ := ea.2 r hr
  obtain ⟨b1, b2, b3⟩ := eb.2 s hs
  rw [a1, b1, a2, a3, b2, b3]
  exact k r s hr hs hn
theorem td_sameT {h2 : MH} (e : td_same h h' a) (e2 : td_same h' h2 a) : td_same h h2 a := by
  refine ⟨fun K hK => (e2.1 K hK).trans (e.1 K hK), e2.2.1.trans e.2.1, fun j => (e2.2.2.1 j).trans (e.2.2.1 j), fun r hr => ?_⟩
  obtain ⟨a1, a2⟩ := e.2.2.2 r hr
  obtain ⟨b1, b2⟩ := e2.2.2.2 r hr
  rw [a1] at b2
  exact ⟨b1.trans a1, b2.1.trans a2.1, ⟨b2.2.1.1.trans a2.2.1.1, b2.2.1.2.trans a2.2.1.2⟩, fun k => ⟨(b2.2.2 k).1.trans (a2.2.2 k).1, (b2.2.2 k).2.trans (a2.2.2 k).2⟩⟩
theorem td_same0 : td_same h h a := ⟨fun _ _ => rfl, rfl, fun _ => rfl, fun _ _ => ⟨rfl, rfl, ⟨rfl, rfl⟩, fun _ => ⟨rfl, rfl⟩⟩⟩
end
theorem d_noS {D D' W : List (Nat × Nat)} (h : d_no D W = true) (s : D'.all (fun q => D.contains q) = true) : d_no D' W = true := List.all_eq_true.mpr (fun q hq => List.all_eq_true.mp h q (List.contains_iff_mem.mp (List.all_eq_true.mp s q hq)))
def td_DN : List (Nat × Nat) := [(7, 0), (7, 1), (7, 2), (7, 3), (7, 4), (7, 5), (13, 1001), (13, 1002), (10, 1001), (10, 1002), (14, 1001), (14, 1002), (15, 1001), (15, 1002), (12, 0), (12, 1), (12, 2)]
theorem td_r4N {ρ : Nat → Nat} {h : MH} {a : Nat} (ht : TH c_sp ρ h) (ha : ρ a = 7) : 0 ≤ q_fd h a 5 ∧ q_fd h a 5 ≤ 4 ∧ 0 ≤ q_fd h a 2 ∧ q_fd h a 2 ≤ 600 := by
  have c := t_spec ht (by decide) (rfl : c_sp[7]? = some _) ha
  have c5 := c.2.2.2 5 (.inl (0, 4)) rfl (fun z => by cases z)
  have c2 := c.2.2.2 2 (.inl (0, 600)) rfl (fun z => by cases z)
  exact ⟨c5.1, c5.2, c2.1, c2.2⟩
theorem td_obN {ρ : Nat → Nat} {h : MH} {a : Nat} (ht : TH c_sp ρ h) (ha : ρ a = 7) : ρ (h_r h a 0) = 13 ∧ ρ (h_r h a 1) = 10 ∧ ∀ r, r < 4 → ρ (q_ac h a r) = 12 ∧ ρ (h_r h (q_ac h a r) 0) = 14 ∧ ρ (h_r h (q_ac h a r) 1) = 15 := by
  have r0 := (th_rf ht (R := 7) (by decide) rfl ha (k := 0) rfl (fun z => by cases z)).2
  have r1 := (th_rf ht (R := 7) (by decide) rfl ha (k := 1) rfl (fun z => by cases z)).2
  refine ⟨r0, r1, fun r hr => ?_⟩
  have c1 := t_spec ht (by decide) (rfl : c_sp[10]? = some _) r1
  have l4 : 4 ≤ (h_k h (h_r h a 1)).2 := c1.2.1.1
  have rc : ρ (q_ac h a r) = 12 := (t_nn (c1.2.2.2 r (.inr (.inr (12, true))) rfl (fun _ => by omega))).2
  exact ⟨rc, (th_rf ht (R := 12) (by decide) rfl rc (k := 0) rfl (fun z => by cases z)).2, (th_rf ht (R := 12) (by decide) rfl rc (k := 1) rfl (fun z => by cases z)).2⟩
theorem td_frN {ρ ρ' : Nat → Nat} {W : List (Nat × Nat)} {h h' : MH} {a : Nat} (ht : TH c_sp ρ h) (f : FQ ρ ρ' W h h') (hn : d_no td_DN W = true) (ha : ρ a = 7) : td_same h h' a := by
  have lt : ∀ x, ρ x ≠ 0 → x < 16 + h_n h := fun x hx => (ht.2 x hx).1
  obtain ⟨r0, r1, rr⟩ := td_obN ht ha
  have la := lt a (by rw [ha]; decide)
  have e0 := (fq_f f hn (List.mem_of_getElem? (i := 0) rfl) (by decide) ha la).2
  have e1 := (fq_f f hn (List.mem_of_getElem? (i := 1) rfl) (by decide) ha la).2
  refine ⟨fun K hK => ?_, e0, fun j => ?_, fun r hr => ?_⟩
  · match K, hK with
    | 0, _ => exact (fq_f f hn (List.mem_of_getElem? (i := 0) rfl) (by decide) ha la).1
    | 1, _ => exact (fq_f f hn (List.mem_of_getElem? (i := 1) rfl) (by decide) ha la).1
    | 2, _ => exact (fq_f f hn (List.mem_of_getElem? (i := 2) rfl) (by decide) ha la).1
    | 3, _ => exact (fq_f f hn (List.mem_of_getElem? (i := 3) rfl) (by decide) ha la).1
    | 4, _ => exact (fq_f f hn (List.mem_of_getElem? (i := 4) rfl) (by decide) ha la).1
    | 5, _ => exact (fq_f f hn (List.mem_of_getElem? (i := 5) rfl) (by decide) ha la).1
  · show (h_i h' (h_r h' a 0) j).toInt = _
    rw [e0]
    exact congrArg Int32.toInt (fq_e j f hn (List.mem_of_getElem? (i := 6) rfl) (List.mem_of_getElem? (i := 7) rfl) r0 (lt _ (by rw [r0]; decide))).1
  · obtain ⟨rc, rk, rn⟩ := rr r hr
    have lc := lt _ (by rw [rc]; decide)
    have er : q_ac h' a r = q_ac h a r := by
      unfold q_ac
      rw [e1]
      exact (fq_e r f hn (List.mem_of_getElem? (i := 8) rfl) (List.mem_of_getElem? (i := 9) rfl) r1 (lt _ (by rw [r1]; decide))).2
    have ek := (fq_f f hn (List.mem_of_getElem? (i := 14) rfl) (by decide) rc lc).2
    have en := (fq_f f hn (List.mem_of_getElem? (i := 15) rfl) (by decide) rc lc).2
    refine ⟨er, (fq_f f hn (List.mem_of_getElem? (i := 16) rfl) (by decide) rc lc).1, ⟨ek, en⟩, fun k => ⟨?_, ?_⟩⟩
    · show (h_i h' (h_r h' (q_ac h a r) 0) k).toInt = _
      rw [ek]
      exact congrArg Int32.toInt (fq_e k f hn (List.mem_of_getElem? (i := 10) rfl) (List.mem_of_getElem? (i := 11) rfl) rk (lt _ (by rw [rk]; decide))).1
    · show (h_i h' (h_r h' (q_ac h a r) 1) k).toInt = _
      rw [en]
      exact congrArg Int32.toInt (fq_e k f hn (List.mem_of_getElem? (i := 12) rfl) (List.mem_of_getElem? (i := 13) rfl) rn (lt _ (by rw [rn]; decide))).1
def td_DI : List (Nat × Nat) := [(97, 0), (97, 1), (97, 2), (97, 3), (97, 4), (97, 5), (99, 1001), (99, 1002), (98, 1001), (98, 1002), (101, 1001), (101, 1002), (102, 1001), (102, 1002), (100, 0), (100, 1), (100, 2)]
theorem td_r4I {ρ : Nat → Nat} {h : MH} {a : Nat} (ht : TH c_sp ρ h) (ha : ρ a = 97) : 0 ≤ q_fd h a 5 ∧ q_fd h a 5 ≤ 4 ∧ 0 ≤ q_fd h a 2 ∧ q_fd h a 2 ≤ 600 := by
  have c := t_spec ht (by decide) (rfl : c_sp[97]? = some _) ha
  have c5 := c.2.2.2 5 (.inl (0, 4)) rfl (fun z => by cases z)
  have c2 := c.2.2.2 2 (.inl (0, 600)) rfl (fun z => by cases z)
  exact ⟨c5.1, c5.2, c2.1, c2.2⟩
theorem td_obI {ρ : Nat → Nat} {h : MH} {a : Nat} (ht : TH c_sp ρ h) (ha : ρ a = 97) : ρ (h_r h a 0) = 99 ∧ ρ (h_r h a 1) = 98 ∧ ∀ r, r < 4 → ρ (q_ac h a r) = 100 ∧ ρ (h_r h (q_ac h a r) 0) = 101 ∧ ρ (h_r h (q_ac h a r) 1) = 102 := by
  have r0 := (th_rf ht (R := 97) (by decide) rfl ha (k := 0) rfl (fun z => by cases z)).2
  have r1 := (th_rf ht (R := 97) (by decide) rfl ha (k := 1) rfl (fun z => by cases z)).2
  refine ⟨r0, r1, fun r hr => ?_⟩
  have c1 := t_spec ht (by decide) (rfl : c_sp[98]? = some _) r1
  have l4 : 4 ≤ (h_k h (h_r h a 1)).2 := c1.2.1.1
  have rc : ρ (q_ac h a r) = 100 := (t_nn (c1.2.2.2 r (.inr (.inr (100, true))) rfl (fun _ => by omega))).2
  exact ⟨rc, (th_rf ht (R := 100) (by decide) rfl rc (k := 0) rfl (fun z => by cases z)).2, (th_rf ht (R := 100) (by decide) rfl rc (k := 1) rfl (fun z => by cases z)).2⟩
theorem td_frI {ρ ρ' : Nat → Nat} {W : List (Nat × Nat)} {h h' : MH} {a : Nat} (ht : TH c_sp ρ h) (f : FQ ρ ρ' W h h') (hn : d_no td_DI W = true) (ha : ρ a = 97) : td_same h h' a := by
  have lt : ∀ x, ρ x ≠ 0 → x < 16 + h_n h := fun x hx => (ht.2 x hx).1
  obtain ⟨r0, r1, rr⟩ := td_obI ht ha
  have la := lt a (by rw [ha]; decide)
  have e0 := (fq_f f hn (List.mem_of_getElem? (i := 0) rfl) (by decide) ha la).2
  have e1 := (fq_f f hn (List.mem_of_getElem? (i := 1) rfl) (by decide) ha la).2
  refine ⟨fun K hK => ?_, e0, fun j => ?_, fun r hr => ?_⟩
  · match K, hK with
    | 0, _ => exact (fq_f f hn (List.mem_of_getElem? (i := 0) rfl) (by decide) ha la).1
    | 1, _ => exact (fq_f f hn (List.mem_of_getElem? (i := 1) rfl) (by decide) ha la).1
    | 2, _ => exact (fq_f f hn (List.mem_of_getElem? (i := 2) rfl) (by decide) ha la).1
    | 3, _ => exact (fq_f f hn (List.mem_of_getElem? (i := 3) rfl) (by decide) ha la).1
    | 4, _ => exact (fq_f f hn (List.mem_of_getElem? (i := 4) rfl) (by decide) ha la).1
    | 5, _ => exact (fq_f f hn (List.mem_of_getElem? (i := 5) rfl) (by decide) ha la).1
  · show (h_i h' (h_r h' a 0) j).toInt = _
    rw [e0]
    exact congrArg Int32.toInt (fq_e j f hn (List.mem_of_getElem? (i := 6) rfl) (List.mem_of_getElem? (i := 7) rfl) r0 (lt _ (by rw [r0]; decide))).1
  · obtain ⟨rc, rk, rn⟩ := rr r hr
    have lc := lt _ (by rw [rc]; decide)
    have er : q_ac h' a r = q_ac h a r := by
      unfold q_ac
      rw [e1]
      exact (fq_e r f hn (List.mem_of_getElem? (i := 8) rfl) (List.mem_of_getElem? (i := 9) rfl) r1 (lt _ (by rw [r1]; decide))).2
    have ek := (fq_f f hn (List.mem_of_getElem? (i := 14) rfl) (by decide) rc lc).2
    have en := (fq_f f hn (List.mem_of_getElem? (i := 15) rfl) (by decide) rc lc).2
    refine ⟨er, (fq_f f hn (List.mem_of_getElem? (i := 16) rfl) (by decide) rc lc).1, ⟨ek, en⟩, fun k => ⟨?_, ?_⟩⟩
    · show (h_i h' (h_r h' (q_ac h a r) 0) k).toInt = _
      rw [ek]
      exact congrArg Int32.toInt (fq_e k f hn (List.mem_of_getElem? (i := 10) rfl) (List.mem_of_getElem? (i := 11) rfl) rk (lt _ (by rw [rk]; decide))).1
    · show (h_i h' (h_r h' (q_ac h a r) 1) k).toInt = _
      rw [en]
      exact congrArg Int32.toInt (fq_e k f hn (List.mem_of_getElem? (i := 12) rfl) (List.mem_of_getElem? (i := 13) rfl) rn (lt _ (by rw [rn]; decide))).1
def td_EN : List (Nat × Nat) := [(7, 0), (7, 1), (10, 1001), (10, 1002), (12, 0), (12, 1)]
theorem td_rfN {ρ ρ' : Nat → Nat} {W : List (Nat × Nat)} {h h' : MH} {a : Nat} (ht : TH c_sp ρ h) (f : FQ ρ ρ' W h h') (hn : d_no td_EN W = true) (ha : ρ a = 7) : td_refs h h' a := by
  have lt : ∀ x, ρ x ≠ 0 → x < 16 + h_n h := fun x hx => (ht.2 x hx).1
  obtain ⟨r0, r1, rr⟩ := td_obN ht ha
  have la := lt a (by rw [ha]; decide)
  have e0 := (fq_f f hn (List.mem_of_getElem? (i := 0) rfl) (by decide) ha la).2
  have e1 := (fq_f f hn (List.mem_of_getElem? (i := 1) rfl) (by decide) ha la).2
  refine ⟨e0, fun r hr => ?_⟩
  obtain ⟨rc, rk, rn⟩ := rr r hr
  have lc := lt _ (by rw [rc]; decide)
  have er : q_ac h' a r = q_ac h a r := by
    unfold q_ac
    rw [e1]
    exact (fq_e r f hn (List.mem_of_getElem? (i := 2) rfl) (List.mem_of_getElem? (i := 3) rfl) r1 (lt _ (by rw [r1]; decide))).2
  exact ⟨er, (fq_f f hn (List.mem_of_getElem? (i := 4) rfl) (by decide) rc lc).2, (fq_f f hn (List.mem_of_getElem? (i := 5) rfl) (by decide) rc lc).2⟩
def td_EI : List (Nat × Nat) := [(97, 0), (97, 1), (98, 1001), (98, 1002), (100, 0), (100, 1)]
theorem td_rfI {ρ ρ' : Nat → Nat} {W : List (Nat × Nat)} {h h' : MH} {a : Nat} (ht : TH c_sp ρ h) (f : FQ ρ ρ' W h h') (hn : d_no td_EI W = true) (ha : ρ a = 97) : td_refs h h' a := by
  have lt : ∀ x, ρ x ≠ 0 → x < 16 + h_n h := fun x hx => (ht.2 x hx).1
  obtain ⟨r0, r1, rr⟩ := td_obI ht ha
  have la := lt a (by rw [ha]; decide)
  have e0 := (fq_f f hn (List.mem_of_getElem? (i := 0) rfl) (by decide) ha la).2
  have e1 := (fq_f f hn (List.mem_of_getElem? (i := 1) rfl) (by decide) ha la).2
  refine ⟨e0, fun r hr => ?_⟩
  obtain ⟨rc, rk, rn⟩ := rr r hr
  have lc := lt _ (by rw [rc]; decide)
  have er : q_ac h' a r = q_ac h a r := by
    unfold q_ac
    rw [e1]
    exact (fq_e r f hn (List.mem_of_getElem? (i := 2) rfl) (List.mem_of_getElem? (i := 3) rfl) r1 (lt _ (by rw [r1]; decide))).2
  exact ⟨er, (fq_f f hn (List.mem_of_getElem? (i := 4) rfl) (by decide) rc lc).2, (fq_f f hn (List.mem_of_getElem? (i := 5) rfl) (by decide) rc lc).2⟩
def td_DV : List (Nat × Nat) := [(49, 1), (50, 1001), (50, 1002), (49, 2), (51, 1001), (51, 1002), (49, 3), (52, 1001), (52, 1002), (49, 4), (53, 1001), (53, 1002), (49, 5), (54, 1001), (54, 1002), (49, 6), (55, 1001), (55, 1002)]
theorem vm_fr {ρ ρ' : Nat → Nat} {W : List (Nat × Nat)} {h h' : MH} {m : Nat} (ht : TH c_sp ρ h) (f : FQ ρ ρ' W h h') (hn : d_no td_DV W = true) (hm : ρ m = 49) : vm_same h h' m := fun K hK => by
  have hl := (ht.2 m (by rw [hm]; decide)).1
  rcases hK with rfl | rfl | rfl | rfl | rfl | rfl
  · exact funext (fun j => congrArg Int32.toInt (fq_arr f ht hn (by decide) rfl rfl rfl (List.mem_of_getElem? (i := 0) rfl) (by decide) (List.mem_of_getElem? (i := 1) rfl) (List.mem_of_getElem? (i := 2) rfl) (by decide) hm hl j))
  · exact funext (fun j => congrArg Int32.toInt (fq_arr f ht hn (by decide) rfl rfl rfl (List.mem_of_getElem? (i := 3) rfl) (by decide) (List.mem_of_getElem? (i := 4) rfl) (List.mem_of_getElem? (i := 5) rfl) (by decide) hm hl j))
  · exact funext (fun j => congrArg Int32.toInt (fq_arr f ht hn (by decide) rfl rfl rfl (List.mem_of_getElem? (i := 6) rfl) (by decide) (List.mem_of_getElem? (i := 7) rfl) (List.mem_of_getElem? (i := 8) rfl) (by decide) hm hl j))
  · exact funext (fun j => congrArg Int32.toInt (fq_arr f ht hn (by decide) rfl rfl rfl (List.mem_of_getElem? (i := 9) rfl) (by decide) (List.mem_of_getElem? (i := 10) rfl) (List.mem_of_getElem? (i := 11) rfl) (by decide) hm hl j))
  · exact funext (fun j => congrArg Int32.toInt (fq_arr f ht hn (by decide) rfl rfl rfl (List.mem_of_getElem? (i := 12) rfl) (by decide) (List.mem_of_getElem? (i := 13) rfl) (List.mem_of_getElem? (i := 14) rfl) (by decide) hm hl j))
  · exact funext (fun j => congrArg Int32.toInt (fq_arr f ht hn (by decide) rfl rfl rfl (List.mem_of_getElem? (i := 15) rfl) (by decide) (List.mem_of_getElem? (i := 16) rfl) (List.mem_of_getElem? (i := 17) rfl) (by decide) hm hl j))
theorem im_ob {ρ : Nat → Nat} {h : MH} (ht : TH c_sp ρ h) (h16 : ρ 16 = 6) (j : Nat) (hj : j < 3) (h0 : r_im h j ≠ 0) : ρ (r_im h j) = 97 := by
  have fI : ρ (r_I h) = 8 := (th_rf ht (R := 6) (by decide) rfl h16 (k := 1) rfl (fun z => by cases z)).2
  have c := t_spec ht (by decide) (rfl : c_sp[8]? = some _) fI
  have l3 : 3 ≤ (h_k h (r_I h)).2 := c.2.1.1
  rcases (c.2.2.2 j (.inr (.inr (97, false))) rfl (fun _ => by omega) : t_rf ρ 97 false (r_im h j)) with q | ⟨-, -, q⟩
  · exact absurd q.1 h0
  · exact q
theorem nw_ob {ρ : Nat → Nat} {h : MH} (ht : TH c_sp ρ h) (h16 : ρ 16 = 6) : ρ (h_r h 16 0) = 7 := (th_rf ht (R := 6) (by decide) rfl h16 (k := 0) rfl (fun z => by cases z)).2
theorem im_eq {ρ ρ' : Nat → Nat} {W D : List (Nat × Nat)} {h h' : MH} (ht : TH c_sp ρ h) (f : FQ ρ ρ' W h h') (h16 : ρ 16 = 6) (hn : d_no D W = true) (d1 : (6, 1) ∈ D) (d2 : (8, 1001) ∈ D) (d3 : (8, 1002) ∈ D) : ∀ j, r_im h' j = r_im h j := fun j => by
  have l16 := (ht.2 16 (by rw [h16]; decide)).1
  have eI : r_I h' = r_I h := (fq_f f hn d1 (by decide) h16 l16).2
  have fI : ρ (r_I h) = 8 := (th_rf ht (R := 6) (by decide) rfl h16 (k := 1) rfl (fun z => by cases z)).2
  unfold r_im
  rw [eI]
  exact (fq_e j f hn d2 d3 fI (ht.2 _ (by rw [fI]; decide)).1).2
theorem c_PT12 {ρ ρ' : Nat → Nat} {W : List (Nat × Nat)} {h h' : MH} (ht : TH c_sp ρ h) (f : FQ ρ ρ' W h h') (hn : d_no (c_dep 12) W = true) (k : t_rt ρ h) : t_rt ρ' h' := by
  obtain ⟨h16, um, k⟩ := k
  have e1 := im_eq ht f h16 hn (by decide) (by decide) (by decide)
  have e3 := (us_nw ht f h16 hn (by decide)).1
  refine ⟨(f.2.1 16 (by rw [h16]; decide)).trans h16, fun m m' e e' => um m m' (fq_m f ht hn (by decide) (show (49, 1002) ∈ c_dep 12 by decide) e).1 (fq_m f ht hn (by decide) (show (49, 1002) ∈ c_dep 12 by decide) e').1, fun m hm' => ?_⟩
  obtain ⟨hm, hl⟩ := fq_m f ht hn (by decide) (show (49, 1002) ∈ c_dep 12 by decide) hm'
  obtain ⟨k1, k2⟩ := k m hm
  have ev := vm_fr ht f (d_noS hn (by decide)) hm
  rw [e3]
  have nN := nw_ob ht h16
  refine ⟨td_sameR (td_frN ht f (d_noS hn (by decide)) nN) ev (td_r4N ht nN).2.1 k1, fun j hj h0 => ?_⟩
  rw [e1] at h0 ⊢
  have nI := im_ob ht h16 j hj h0
  exact td_sameR (td_frI ht f (d_noS hn (by decide)) nI) ev (td_r4I ht nI).2.1 (k2 j hj h0)
theorem c_PT13 {ρ ρ' : Nat → Nat} {W : List (Nat × Nat)} {h h' : MH} (ht : TH c_sp ρ h) (f : FQ ρ ρ' W h h') (hn : d_no (c_dep 13) W = true) (k : t_ow ρ h) : t_ow ρ' h' := by
  obtain ⟨h16, k1, k2⟩ := k
  have e1 := im_eq ht f h16 hn (by decide) (by decide) (by decide)
  have e3 := (us_nw ht f h16 hn (by decide)).1
  have nN := nw_ob ht h16
  have sN := td_rfN ht f (d_noS hn (by decide)) nN
  refine ⟨(f.2.1 16 (by rw [h16]; decide)).trans h16, by rw [e3]; exact ow_sameR sN sN k1, fun j k hj hk h0 h1 => ?_⟩
  rw [e1] at h0 h1
  rw [e1, e1]
  have sJ := td_rfI ht f (d_noS hn (by decide)) (im_ob ht h16 j hj h0)
  have sK := td_rfI ht f (d_noS hn (by decide)) (im_ob ht h16 k hk h1)
  obtain ⟨y1, y2⟩ := k2 j k hj hk h0 h1
  exact ⟨ow_sameR sJ sK y1, fun hjk => by rw [sJ.1, sK.1]; exact y2 hjk⟩
theorem c_PT14 {ρ ρ' : Nat → Nat} {W : List (Nat × Nat)} {h h' : MH} (ht : TH c_sp ρ h) (f : FQ ρ ρ' W h h') (hn : d_no (c_dep 14) W = true) (k : t_sb ρ h) : t_sb ρ' h' := by
  obtain ⟨k1, k2, k3, k4⟩ := k
  have lt : ∀ x, ρ x ≠ 0 → x < 16 + h_n h := fun x hx => (ht.2 x hx).1
  have c1 : ∀ a R, ρ a = R → R ≠ 0 → (R, 1001) ∈ c_dep 14 → (R, 1002) ∈ c_dep 14 → h_k h' a = h_k h a ∧ ∀ j, h_i h' a j = h_i h a j ∧ h_r h' a j = h_r h a j := fun a R ha hR d1 d2 => by
    have la := lt a (by rw [ha]; exact hR)
    exact ⟨(f.2.2.2 a la).1, fun j => fq_e j f hn d1 d2 ha la⟩
  have same : ∀ a, ρ a ≠ 0 → ρ' a = ρ a := fun a ha => f.2.1 a ha
  refine ⟨fun j hj => ?_, (same 1 (by rw [k2]; decide)).trans k2, fun j hj => ?_, ?_⟩
  · obtain ⟨a1, a2⟩ := k1 j hj
    exact ⟨(same _ (by rw [a1]; decide)).trans a1, (same _ (by rw [a2]; decide)).trans a2⟩
  · obtain ⟨a1, a2⟩ := k1 j hj
    obtain ⟨e1, e2⟩ := c1 _ _ a1 (by decide) (by decide) (by decide)
    obtain ⟨e3, e4⟩ := c1 _ _ a2 (by decide) (by decide) (by decide)
    obtain ⟨n1, n2, n3, n4, n5, n6⟩ := k3 j hj
    refine ⟨by rw [e1]; exact n1, by rw [(e2 0).2]; exact n2, by rw [(e2 1).1]; exact n3, by rw [e3]; exact n4, n5, fun i hi => ?_⟩
    rw [(e4 i).1]
    exact n6 i hi
  · obtain ⟨e1, e2⟩ := c1 1 _ k2 (by decide) (by decide) (by decide)
    refine ⟨by rw [e1]; exact k4.1, fun j hj => ?_⟩
    rw [(e2 j).1]
    exact k4.2 j hj
-- THE CLASS'S PASTS, kept by frames
def pl_same (h h' : MH) (p : Nat) : Prop := (h_r h' p 0 = h_r h p 0 ∧ h_r h' p 1 = h_r h p 1 ∧ h_r h' (h_r h p 0) 4 = h_r h (h_r h p 0) 4 ∧ h_r h' (h_r h p 1) 2 = h_r h (h_r h p 1) 2) ∧ ∀ i, i < 59 → i ≠ 11 → pa_w h' p i = pa_w h p i
def nd_same (h h' : MH) (p : Nat) : Prop := h_r h' (h_r h p 0) 0 = h_r h (h_r h p 0) 0 ∧ (h_i h' (h_r h p 0) 5 = h_i h (h_r h p 0) 5 ∧ h_i h' (h_r h p 0) 6 = h_i h (h_r h p 0) 6) ∧ (∀ j, h_i h' (h_r h (h_r h p 0) 0) j = h_i h (h_r h (h_r h p 0) 0) j) ∧ h_r h' (h_r h p 0) 1 = h_r h (h_r h p 0) 1 ∧ ∀ j, h_l h' (h_r h (h_r h p 0) 1) j = h_l h (h_r h (h_r h p 0) 1) j
def bk_same (h h' : MH) (p : Nat) : Prop := (h_i h' p 11 = h_i h p 11 ∧ h_i h' p 12 = h_i h p 12) ∧ (∀ i, i < 59 → 12 ≤ i → ∀ j, h_i h' (pa_w h p i) j = h_i h (pa_w h p i) j) ∧ (∀ j, h_l h' (h_r h (h_r h p 1) 2) j = h_l h (h_r h (h_r h p 1) 2) j) ∧ nd_same h h' p
def ac_sm (h h' : MH) (c : Nat) : Prop := h_i h' c 2 = h_i h c 2 ∧ ∀ k, q_kd h' c k = q_kd h c k ∧ q_nm h' c k = q_nm h c k
section
variable {h h' : MH} {p q c a : Nat} {Y : RYt}
theorem pl_sameO (e : pl_same h h' p) (k : pl_o h p) : pl_o h' p := fun i j hi hj i1 j1 hn => by
  rw [e.2 i hi i1, e.2 j hj j1]
  exact k i j hi hj i1 j1 hn
theorem pl_sameX (e : pl_same h h' p) (f : pl_same h h' q) (k : pl_x h p q) (c : h_r h' (h_r h' p 0) 0 ≠ h_r h' (h_r h' q 0) 0) (d : h_r h' (h_r h' p 0) 1 ≠ h_r h' (h_r h' q 0) 1) : pl_x h' p q := by
  obtain ⟨⟨a1, a2, a3, a4⟩, a5⟩ := e
  obtain ⟨⟨b1, b2, b3, b4⟩, b5⟩ := f
  obtain ⟨k1, k2, k3, k4, k5, -⟩ := k
  refine ⟨k1, by rw [a1, b1]; exact k2, by rw [a1, b1, a3, b3]; exact k3, by rw [a2, b2, a4, b4]; exact k4, fun i j hi hj i1 j1 => ?_, c, d⟩
  rw [a5 i hi i1, b5 j hj j1]
  exact k5 i j hi hj i1 j1
theorem ce_same (e : pl_same h h' p) (b : bk_same h h' p) : h_r h' (h_r h' p 0) 0 = h_r h (h_r h p 0) 0 := by
  rw [e.1.1]
  exact b.2.2.2.1
theorem he_same (e : pl_same h h' p) (b : bk_same h h' p) : h_r h' (h_r h' p 0) 1 = h_r h (h_r h p 0) 1 := by
  rw [e.1.1]
  exact b.2.2.2.2.2.2.1
theorem pl_sameX2 (e : pl_same h h' p) (f : pl_same h h' q) (be : bk_same h h' p) (bf : bk_same h h' q) (k : pl_x h p q) : pl_x h' p q := pl_sameX e f k (by rw [ce_same e be, ce_same f bf]; exact k.2.2.2.2.2.1) (by rw [he_same e be, he_same f bf]; exact k.2.2.2.2.2.2)
theorem bk_sameB (e : pl_same h h' p) (f : bk_same h h' p) (k : bk_0 h p Y) : bk_0 h' p Y := by
  obtain ⟨⟨a1, a2, a3, a4⟩, a5⟩ := e
  obtain ⟨⟨f1, f12⟩, f2, f3, n1, ⟨n2, n3⟩, n4, n5, n6⟩ := f
  obtain ⟨k1, k2, k3, k4, ⟨k5, kd⟩, ⟨l, c⟩, k7, k8⟩ := k
  have g : ∀ i j, i < 59 → 12 ≤ i → h_i h' (pa_w h' p i) j = h_i h (pa_w h p i) j := fun i j h1 h2 => by
    rw [a5 i h1 (by omega)]
    exact f2 i h1 h2 j
  refine ⟨by rw [f1]; exact k1, fun v hv => ?_, fun k hk => ?_, fun v hv => ?_, ⟨fun v hv => ?_, fun j hj => ?_⟩, ⟨l, ?_⟩, (congrArg Int32.toInt f12).trans k7, fun v hv r hr => (congrArg Int32.toInt (g (18 + v) r (by omega) (by omega))).trans (k8 v hv r hr)⟩
  · rw [g 12 v (by decide) (by decide)]
    exact k2 v hv
  · rw [g 13 k (by decide) (by decide), g 14 k (by decide) (by decide), g 15 k (by decide) (by decide)]
    exact k3 k hk
  · rw [g 16 v (by decide) (by decide), g 17 v (by decide) (by decide)]
    exact k4 v hv
  · have e : h_l h' (h_r h' (h_r h' p 1) 2) = h_l h (h_r h (h_r h p 1) 2) := by
      rw [a2, a4]
      exact funext f3
    rw [e]
    exact k5 v hv
  · rw [a1, n5, n6]
    exact kd j hj
  · rw [a1]
    have e0 : z_i h' (h_r h' (h_r h p 0) 0) = z_i h (h_r h (h_r h p 0) 0) := by
      rw [n1]
      exact funext (fun j => congrArg Int32.toInt (n4 j))
    have e5 : z_i h' (h_r h p 0) 5 = z_i h (h_r h p 0) 5 := congrArg Int32.toInt n2
    have e6 : z_i h' (h_r h p 0) 6 = z_i h (h_r h p 0) 6 := congrArg Int32.toInt n3
    unfold cs_of at c ⊢
    rw [e0, e5, e6]
    exact c
theorem ac_smT (e : ac_sm h h' c) : ac_T h' c = ac_T h c ∧ q_fd h' c 2 = q_fd h c 2 := ⟨funext (fun j => by
  unfold ac_T
  rw [(e.2 _).1, (e.2 _).2]), congrArg Int32.toInt e.1⟩
theorem ac_smY (e : ac_sm h h' c) : ac_Y h' c = ac_Y h c := by
  unfold ac_Y ac_N
  rw [(ac_smT e).1, (ac_smT e).2]
theorem ac_smV (e : ac_sm h h' c) (k : av_c h c) : av_c h' c := fun n hn => by
  rw [(ac_smT e).1]
  rw [(ac_smT e).2] at hn
  exact k n hn
theorem av_same (e5 : q_fd h' a 5 = q_fd h a 5) (b5 : q_fd h a 5 ≤ 4) (er : ∀ r, r < 4 → q_ac h' a r = q_ac h a r ∧ ac_sm h h' (q_ac h a r)) (k : av_t h a) : av_t h' a := fun r hr => by
  rw [e5] at hr
  obtain ⟨e1, e2⟩ := er r (by omega)
  rw [e1]
  exact ac_smV e2 (k r hr)
end
theorem sl_ob {ρ : Nat → Nat} {h : MH} (ht : TH c_sp ρ h) (h16 : ρ 16 = 6) {k : Nat} (hk : k < 4) (h0 : r_sl h k ≠ 0) : ρ (r_sl h k) = 29 := by
  have fP : ρ (r_P h) = 9 := (th_rf ht (R := 6) (by decide) rfl h16 (k := 2) rfl (fun z => by cases z)).2
  have c := t_spec ht (by decide) (rfl : c_sp[9]? = some _) fP
  have l4 : 4 ≤ (h_k h (r_P h)).2 := c.2.1.1
  rcases (c.2.2.2 k (.inr (.inr (29, false))) rfl (fun _ => by omega) : t_rf ρ 29 false (r_sl h k)) with q | ⟨-, -, q⟩
  · exact absurd q.1 h0
  · exact q
def pk_D : List (Nat × Nat) := [(6, 0), (6, 1), (6, 2), (6, 1002), (8, 1001), (8, 1002), (9, 1001), (9, 1002), (29, 0), (29, 1), (29, 2), (29, 3), (29, 4), (29, 5), (29, 6), (29, 7), (29, 8), (29, 11), (39, 2), (39, 3), (39, 4), (16, 0), (16, 1), (16, 2), (16, 3), (16, 4), (16, 5), (16, 6), (42, 0), (42, 1), (42, 2), (30, 1001), (30, 1002), (31, 1001), (31, 1002), (32, 1001), (32, 1002), (33, 1001), (33, 1002), (34, 1001), (34, 1002), (43, 1001), (43, 1002), (44, 1001), (44, 1002), (45, 1001), (45, 1002), (7, 0), (7, 1), (7, 5), (97, 0), (97, 1), (97, 5), (10, 1001), (10, 1002), (98, 1001), (98, 1002), (12, 0), (12, 1), (12, 2), (100, 0), (100, 1), (100, 2), (14, 1001), (14, 1002), (15, 1001), (15, 1002), (101, 1001), (101, 1002), (102, 1001), (102, 1002), (39, 0), (39, 5), (39, 6), (29, 12), (40, 1001), (40, 1002), (35, 1001), (35, 1002), (39, 1), (41, 1001), (41, 1002)]
theorem past_ob {ρ : Nat → Nat} {h : MH} {p : Nat} (ht : TH c_sp ρ h) (hp : ρ p = 29) : (ρ (h_r h p 0) = 39 ∧ ρ (h_r h p 1) = 42 ∧ ρ (h_r h p 2) = 30 ∧ ρ (h_r h p 7) = 35 ∧ ρ (h_r h p 8) = 35) ∧ ρ (h_r h (h_r h p 0) 4) = 16 ∧ ρ (h_r h (h_r h p 1) 2) = 45 := by
  have f := fun (k R2 : Nat) (e : r_ft _ k = some (.inr (.inr (R2, true)))) => (th_rf ht (R := 29) (by decide) rfl hp (k := k) (R2 := R2) e (fun z => by cases z)).2
  have r0 := f 0 39 rfl
  have r1 := f 1 42 rfl
  exact ⟨⟨r0, r1, f 2 30 rfl, f 7 35 rfl, f 8 35 rfl⟩, (th_rf ht (R := 39) (by decide) rfl r0 (k := 4) rfl (fun z => by cases z)).2, (th_rf ht (R := 42) (by decide) rfl r1 (k := 2) rfl (fun z => by cases z)).2⟩
def pa_R (i : Nat) : Nat := if i < 18 then [17, 18, 21, 19, 23, 20, 22, 35, 35, 35, 38, 40, 31, 32, 33, 34, 43, 44].getD i 0 else 35
theorem past_row {ρ : Nat → Nat} {h : MH} {p : Nat} (ht : TH c_sp ρ h) (hp : ρ p = 29) : ∀ i, i < 59 → ρ (pa_w h p i) = pa_R i := by
  obtain ⟨⟨r0, r1, r2, r7, r8⟩, r4, -⟩ := past_ob ht hp
  have f := fun (k R2 : Nat) (e : r_ft _ k = some (.inr (.inr (R2, true)))) => (th_rf ht (R := 29) (by decide) rfl hp (k := k) (R2 := R2) e (fun z => by cases z)).2
  have fw := fun (k R2 : Nat) (e : r_ft _ k = some (.inr (.inr (R2, true)))) => (th_rf ht (R := 16) (by decide) rfl r4 (k := k) (R2 := R2) e (fun z => by cases z)).2
  have fn := fun (k R2 : Nat) (e : r_ft _ k = some (.inr (.inr (R2, true)))) => (th_rf ht (R := 39) (by decide) rfl r0 (k := k) (R2 := R2) e (fun z => by cases z)).2
  have fl := fun (k R2 : Nat) (e : r_ft _ k = some (.inr (.inr (R2, true)))) => (th_rf ht (R := 42) (by decide) rfl r1 (k := k) (R2 := R2) e (fun z => by cases z)).2
  have cR := t_spec ht (by decide) (rfl : c_sp[30]? = some _) r2
  intro i hi
  by_cases h18 : i < 18
  · match i, h18 with
    | 0, _ => exact fw 0 17 rfl
    | 1, _ => exact fw 1 18 rfl
    | 2, _ => exact fw 2 21 rfl
    | 3, _ => exact fw 3 19 rfl
    | 4, _ => exact fw 4 23 rfl
    | 5, _ => exact fw 5 20 rfl
    | 6, _ => exact fw 6 22 rfl
    | 7, _ => exact f 7 35 rfl
    | 8, _ => exact f 8 35 rfl
    | 9, _ => exact fn 2 35 rfl
    | 10, _ => exact fn 3 38 rfl
    | 11, _ => exact fn 0 40 rfl
    | 12, _ => exact f 3 31 rfl
    | 13, _ => exact f 4 32 rfl
    | 14, _ => exact f 5 33 rfl
    | 15, _ => exact f 6 34 rfl
    | 16, _ => exact fl 0 43 rfl
    | 17, _ => exact fl 1 44 rfl
    | q + 18, z => exact absurd z (by omega)
  · have e : pa_w h p i = h_r h (h_r h p 2) (i - 18) := by
      unfold pa_w
      rw [if_neg (by omega), if_neg (by omega), if_neg (by omega), if_neg (by omega), if_neg (by omega), if_neg (by omega), if_neg (by omega), if_neg h18]
    have e2 : pa_R i = 35 := if_neg h18
    have l41 : 41 ≤ (h_k h (h_r h p 2)).2 := cR.2.1.1
    rw [e, e2]
    exact (t_nn (cR.2.2.2 (i - 18) (.inr (.inr (35, true))) rfl (fun _ => by omega))).2
theorem pl_fr {ρ ρ' : Nat → Nat} {W : List (Nat × Nat)} {h h' : MH} {p : Nat} (ht : TH c_sp ρ h) (f : FQ ρ ρ' W h h') (hn : d_no pk_D W = true) (hp : ρ p = 29) : pl_same h h' p ∧ bk_same h h' p := by
  have lt : ∀ {x : Nat}, ρ x ≠ 0 → x < 16 + h_n h := fun {x} hx => (ht.2 x hx).1
  obtain ⟨⟨r0, r1, r2, r7, r8⟩, r4, rf⟩ := past_ob ht hp
  have rw_ := past_row ht hp
  have lp := lt (by rw [hp]; decide)
  have l0 := lt (by rw [r0]; decide)
  have l1 := lt (by rw [r1]; decide)
  have l2 := lt (by rw [r2]; decide)
  have l4 := lt (by rw [r4]; decide)
  have lf := lt (by rw [rf]; decide)
  have p0 := (fq_f f hn (List.mem_of_getElem? (i := 8) rfl) (by decide) hp lp).2
  have p1 := (fq_f f hn (List.mem_of_getElem? (i := 9) rfl) (by decide) hp lp).2
  have p2 := (fq_f f hn (List.mem_of_getElem? (i := 10) rfl) (by decide) hp lp).2
  have p3 := (fq_f f hn (List.mem_of_getElem? (i := 11) rfl) (by decide) hp lp).2
  have p4 := (fq_f f hn (List.mem_of_getElem? (i := 12) rfl) (by decide) hp lp).2
  have p5 := (fq_f f hn (List.mem_of_getElem? (i := 13) rfl) (by decide) hp lp).2
  have p6 := (fq_f f hn (List.mem_of_getElem? (i := 14) rfl) (by decide) hp lp).2
  have p7 := (fq_f f hn (List.mem_of_getElem? (i := 15) rfl) (by decide) hp lp).2
  have p8 := (fq_f f hn (List.mem_of_getElem? (i := 16) rfl) (by decide) hp lp).2
  have n2 := (fq_f f hn (List.mem_of_getElem? (i := 18) rfl) (by decide) r0 l0).2
  have n3 := (fq_f f hn (List.mem_of_getElem? (i := 19) rfl) (by decide) r0 l0).2
  have n4 := (fq_f f hn (List.mem_of_getElem? (i := 20) rfl) (by decide) r0 l0).2
  have w0 := (fq_f f hn (List.mem_of_getElem? (i := 21) rfl) (by decide) r4 l4).2
  have w1 := (fq_f f hn (List.mem_of_getElem? (i := 22) rfl) (by decide) r4 l4).2
  have w2 := (fq_f f hn (List.mem_of_getElem? (i := 23) rfl) (by decide) r4 l4).2
  have w3 := (fq_f f hn (List.mem_of_getElem? (i := 24) rfl) (by decide) r4 l4).2
  have w4 := (fq_f f hn (List.mem_of_getElem? (i := 25) rfl) (by decide) r4 l4).2
  have w5 := (fq_f f hn (List.mem_of_getElem? (i := 26) rfl) (by decide) r4 l4).2
  have w6 := (fq_f f hn (List.mem_of_getElem? (i := 27) rfl) (by decide) r4 l4).2
  have i0 := (fq_f f hn (List.mem_of_getElem? (i := 28) rfl) (by decide) r1 l1).2
  have i1 := (fq_f f hn (List.mem_of_getElem? (i := 29) rfl) (by decide) r1 l1).2
  have i2 := (fq_f f hn (List.mem_of_getElem? (i := 30) rfl) (by decide) r1 l1).2
  have eR := fun j => (fq_e j f hn (List.mem_of_getElem? (i := 31) rfl) (List.mem_of_getElem? (i := 32) rfl) r2 l2).2
  have W_ : ∀ i, i < 59 → i ≠ 11 → pa_w h' p i = pa_w h p i := fun i hi h11 => by
    by_cases h18 : i < 18
    · match i, h18 with
      | 0, _ =>
        show h_r h' (h_r h' (h_r h' p 0) 4) 0 = _
        rw [p0, n4]
        exact w0
      | 1, _ =>
        show h_r h' (h_r h' (h_r h' p 0) 4) 1 = _
        rw [p0, n4]
        exact w1
      | 2, _ =>
        show h_r h' (h_r h' (h_r h' p 0) 4) 2 = _
        rw [p0, n4]
        exact w2
      | 3, _ =>
        show h_r h' (h_r h' (h_r h' p 0) 4) 3 = _
        rw [p0, n4]
        exact w3
      | 4, _ =>
        show h_r h' (h_r h' (h_r h' p 0) 4) 4 = _
        rw [p0, n4]
        exact w4
      | 5, _ =>
        show h_r h' (h_r h' (h_r h' p 0) 4) 5 = _
        rw [p0, n4]
        exact w5
      | 6, _ =>
        show h_r h' (h_r h' (h_r h' p 0) 4) 6 = _
        rw [p0, n4]
        exact w6
      | 7, _ =>
        exact p7
      | 8, _ =>
        exact p8
      | 9, _ =>
        show h_r h' (h_r h' p 0) 2 = _
        rw [p0]
        exact n2
      | 10, _ =>
        show h_r h' (h_r h' p 0) 3 = _
        rw [p0]
        exact n3
      | 11, _ =>
        exact absurd rfl h11
      | 12, _ =>
        exact p3
      | 13, _ =>
        exact p4
      | 14, _ =>
        exact p5
      | 15, _ =>
        exact p6
      | 16, _ =>
        show h_r h' (h_r h' p 1) 0 = _
        rw [p1]
        exact i0
      | 17, _ =>
        show h_r h' (h_r h' p 1) 1 = _
        rw [p1]
        exact i1
      | q + 18, z => exact absurd z (by omega)
    · have e : ∀ g : MH, pa_w g p i = h_r g (h_r g p 2) (i - 18) := fun g => by
        unfold pa_w
        rw [if_neg (by omega), if_neg (by omega), if_neg (by omega), if_neg (by omega), if_neg (by omega), if_neg (by omega), if_neg (by omega), if_neg h18]
      rw [e, e, p2]
      exact eR _
  have rcl := (th_rf ht (R := 39) (by decide) rfl r0 (k := 0) rfl (fun z => by cases z)).2
  have rhl := (th_rf ht (R := 39) (by decide) rfl r0 (k := 1) rfl (fun z => by cases z)).2
  have lh := lt (by rw [rhl]; decide : ρ (h_r h (h_r h p 0) 1) ≠ 0)
  refine ⟨⟨⟨p0, p1, n4, i2⟩, W_⟩, ⟨(fq_f f hn (List.mem_of_getElem? (i := 17) rfl) (by decide) hp lp).1, (fq_f f hn (List.mem_of_getElem? (i := 74) rfl) (by decide) hp lp).1⟩, fun i h1 h2 j => ?_, fun j => ?_, (fq_f f hn (List.mem_of_getElem? (i := 71) rfl) (by decide) r0 l0).2, ⟨(fq_f f hn (List.mem_of_getElem? (i := 72) rfl) (by decide) r0 l0).1, (fq_f f hn (List.mem_of_getElem? (i := 73) rfl) (by decide) r0 l0).1⟩, fun j => (fq_e j f hn (List.mem_of_getElem? (i := 75) rfl) (List.mem_of_getElem? (i := 76) rfl) rcl (lt (by rw [rcl]; decide))).1, (fq_f f hn (List.mem_of_getElem? (i := 79) rfl) (by decide) r0 l0).2, fun j => ?_⟩
  · have ri := rw_ i (by omega)
    match i, h1, h2 with
    | 12, _, _ => exact (fq_e j f hn (List.mem_of_getElem? (i := 33) rfl) (List.mem_of_getElem? (i := 34) rfl) ri (lt (by rw [ri]; decide))).1
    | 13, _, _ => exact (fq_e j f hn (List.mem_of_getElem? (i := 35) rfl) (List.mem_of_getElem? (i := 36) rfl) ri (lt (by rw [ri]; decide))).1
    | 14, _, _ => exact (fq_e j f hn (List.mem_of_getElem? (i := 37) rfl) (List.mem_of_getElem? (i := 38) rfl) ri (lt (by rw [ri]; decide))).1
    | 15, _, _ => exact (fq_e j f hn (List.mem_of_getElem? (i := 39) rfl) (List.mem_of_getElem? (i := 40) rfl) ri (lt (by rw [ri]; decide))).1
    | 16, _, _ => exact (fq_e j f hn (List.mem_of_getElem? (i := 41) rfl) (List.mem_of_getElem? (i := 42) rfl) ri (lt (by rw [ri]; decide))).1
    | 17, _, _ => exact (fq_e j f hn (List.mem_of_getElem? (i := 43) rfl) (List.mem_of_getElem? (i := 44) rfl) ri (lt (by rw [ri]; decide))).1
    | q + 18, z, _ =>
      have r6 : ρ (pa_w h p (q + 18)) = 35 := ri.trans (if_neg (by omega))
      exact (fq_e j f hn (List.mem_of_getElem? (i := 77) rfl) (List.mem_of_getElem? (i := 78) rfl) r6 (lt (by rw [r6]; decide))).1
  · have hw : ¬ t_W W (ρ (h_r h (h_r h p 1) 2)) j := by
      rw [rf]
      by_cases hk : j = 1002
      · intro z
        rcases z with z | z
        · rw [hk] at z
          exact d_noN hn (List.mem_of_getElem? (i := 46) rfl) z
        · exact d_noW hn (List.mem_of_getElem? (i := 45) rfl) (by decide) (Or.inr z)
      · rcases d_noE (k := j) hn (List.mem_of_getElem? (i := 45) rfl) with z | z
        · exact z
        · exact absurd z hk
    exact ((f.2.2.2 _ lf).2 j hw).2.1
  · have hw : ¬ t_W W (ρ (h_r h (h_r h p 0) 1)) j := by
      rw [rhl]
      by_cases hk : j = 1002
      · intro z
        rcases z with z | z
        · rw [hk] at z
          exact d_noN hn (List.mem_of_getElem? (i := 81) rfl) z
        · exact d_noW hn (List.mem_of_getElem? (i := 80) rfl) (by decide) (Or.inr z)
      · rcases d_noE (k := j) hn (List.mem_of_getElem? (i := 80) rfl) with z | z
        · exact z
        · exact absurd z hk
    exact ((f.2.2.2 _ lh).2 j hw).2.1
theorem as_frN {ρ ρ' : Nat → Nat} {W : List (Nat × Nat)} {h h' : MH} {a : Nat} (ht : TH c_sp ρ h) (f : FQ ρ ρ' W h h') (hn : d_no pk_D W = true) (ha : ρ a = 7) : q_fd h' a 5 = q_fd h a 5 ∧ ∀ r, r < 4 → q_ac h' a r = q_ac h a r ∧ ac_sm h h' (q_ac h a r) := by
  have lt : ∀ {x : Nat}, ρ x ≠ 0 → x < 16 + h_n h := fun {x} hx => (ht.2 x hx).1
  obtain ⟨-, -, oA⟩ := td_obN ht ha
  have rf := td_rfN ht f (d_noS hn (by decide)) ha
  refine ⟨congrArg Int32.toInt (fq_f f hn (List.mem_of_getElem? (i := 49) rfl) (by decide) ha (lt (by rw [ha]; decide))).1, fun r hr => ?_⟩
  obtain ⟨e1, e2, e3⟩ := rf.2 r hr
  obtain ⟨o1, o2, o3⟩ := oA r hr
  refine ⟨e1, (fq_f f hn (List.mem_of_getElem? (i := 59) rfl) (by decide) o1 (lt (by rw [o1]; decide))).1, fun k => ⟨?_, ?_⟩⟩
  · show (h_i h' (h_r h' (q_ac h a r) 0) k).toInt = _
    rw [e2]
    exact congrArg Int32.toInt (fq_e k f hn (List.mem_of_getElem? (i := 63) rfl) (List.mem_of_getElem? (i := 64) rfl) o2 (lt (by rw [o2]; decide))).1
  · show (h_i h' (h_r h' (q_ac h a r) 1) k).toInt = _
    rw [e3]
    exact congrArg Int32.toInt (fq_e k f hn (List.mem_of_getElem? (i := 65) rfl) (List.mem_of_getElem? (i := 66) rfl) o3 (lt (by rw [o3]; decide))).1
theorem as_frI {ρ ρ' : Nat → Nat} {W : List (Nat × Nat)} {h h' : MH} {a : Nat} (ht : TH c_sp ρ h) (f : FQ ρ ρ' W h h') (hn : d_no pk_D W = true) (ha : ρ a = 97) : q_fd h' a 5 = q_fd h a 5 ∧ ∀ r, r < 4 → q_ac h' a r = q_ac h a r ∧ ac_sm h h' (q_ac h a r) := by
  have lt : ∀ {x : Nat}, ρ x ≠ 0 → x < 16 + h_n h := fun {x} hx => (ht.2 x hx).1
  obtain ⟨-, -, oA⟩ := td_obI ht ha
  have rf := td_rfI ht f (d_noS hn (by decide)) ha
  refine ⟨congrArg Int32.toInt (fq_f f hn (List.mem_of_getElem? (i := 52) rfl) (by decide) ha (lt (by rw [ha]; decide))).1, fun r hr => ?_⟩
  obtain ⟨e1, e2, e3⟩ := rf.2 r hr
  obtain ⟨o1, o2, o3⟩ := oA r hr
  refine ⟨e1, (fq_f f hn (List.mem_of_getElem? (i := 62) rfl) (by decide) o1 (lt (by rw [o1]; decide))).1, fun k => ⟨?_, ?_⟩⟩
  · show (h_i h' (h_r h' (q_ac h a r) 0) k).toInt = _
    rw [e2]
    exact congrArg Int32.toInt (fq_e k f hn (List.mem_of_getElem? (i := 67) rfl) (List.mem_of_getElem? (i := 68) rfl) o2 (lt (by rw [o2]; decide))).1
  · show (h_i h' (h_r h' (q_ac h a r) 1) k).toInt = _
    rw [e3]
    exact congrArg Int32.toInt (fq_e k f hn (List.mem_of_getElem? (i := 69) rfl) (List.mem_of_getElem? (i := 70) rfl) o3 (lt (by rw [o3]; decide))).1
theorem sl_fr {ρ ρ' : Nat → Nat} {W : List (Nat × Nat)} {h h' : MH} (ht : TH c_sp ρ h) (f : FQ ρ ρ' W h h') (hn : d_no pk_D W = true) (h16 : ρ 16 = 6) (k : Nat) : r_sl h' k = r_sl h k := by
  have l16 := (ht.2 16 (by rw [h16]; decide)).1
  have eP : r_P h' = r_P h := (fq_f f hn (List.mem_of_getElem? (i := 2) rfl) (by decide) h16 l16).2
  have fP : ρ (r_P h) = 9 := (th_rf ht (R := 6) (by decide) rfl h16 (k := 2) rfl (fun z => by cases z)).2
  unfold r_sl
  rw [eP]
  exact (fq_e k f hn (List.mem_of_getElem? (i := 6) rfl) (List.mem_of_getElem? (i := 7) rfl) fP (ht.2 _ (by rw [fP]; decide)).1).2
theorem c_PT15 {ρ ρ' : Nat → Nat} {W : List (Nat × Nat)} {h h' : MH} (ht : TH c_sp ρ h) (f : FQ ρ ρ' W h h') (hn0 : d_no (c_dep 15) W = true) (k : t_pk ρ h) : t_pk ρ' h' := by
  obtain ⟨h16, k1, k2, k3, k4⟩ := k
  have hn : d_no pk_D W = true := d_noS hn0 (by decide)
  have l16 := (ht.2 16 (by rw [h16]; decide)).1
  have e0 : h_r h' 16 0 = h_r h 16 0 := (fq_f f hn (List.mem_of_getElem? (i := 0) rfl) (by decide) h16 l16).2
  have es := sl_fr ht f hn h16
  have fN := nw_ob ht h16
  obtain ⟨n5, nA⟩ := as_frN ht f hn fN
  have b5 := (td_r4N ht fN).2.1
  refine ⟨(f.2.1 16 (by rw [h16]; decide)).trans h16, fun i hi h0 => ?_, fun r hr => ?_, by rw [e0]; exact av_same n5 b5 nA k3, fun j hj h0 => ?_⟩
  · rw [es] at h0
    rw [es]
    obtain ⟨y1, y2⟩ := k1 i hi h0
    have si := pl_fr ht f hn (sl_ob ht h16 hi h0)
    refine ⟨pl_sameO si.1 y1, fun j hj hn2 h1 => ?_⟩
    rw [es] at h1
    rw [es]
    have sj := pl_fr ht f hn (sl_ob ht h16 hj h1)
    exact pl_sameX2 si.1 sj.1 si.2 sj.2 (y2 j hj hn2 h1)
  · rw [e0, n5] at hr
    have r4 : r < 4 := by omega
    obtain ⟨y1, y2⟩ := k2 r hr
    have sr := pl_fr ht f hn (sl_ob ht h16 r4 y1)
    rw [es, e0, (nA r r4).1, ac_smY (nA r r4).2]
    exact ⟨y1, bk_sameB sr.1 sr.2 y2⟩
  · have ei := im_eq ht f h16 hn (List.mem_of_getElem? (i := 1) rfl) (List.mem_of_getElem? (i := 4) rfl) (List.mem_of_getElem? (i := 5) rfl) j
    rw [ei] at h0 ⊢
    have oI := im_ob ht h16 j hj h0
    obtain ⟨m5, mA⟩ := as_frI ht f hn oI
    exact av_same m5 (td_r4I ht oI).2.1 mA (k4 j hj h0)
theorem c_PTx : PTx c_sp c_dep c_PT := fun t ρ ρ' W h h' ht f hn k => by
  match t with
  | 1 => exact c_PT1 ht f hn k
  | 2 => exact c_PT2 ht f hn k
  | 3 => exact c_PT3 ht f hn k
  | 4 => exact c_PT4 ht f hn k
  | 5 => exact c_PT5 ht f hn k
  | 6 => exact c_PT6 ht f hn k
  | 7 => exact c_PT7 ht f hn k
  | 8 => exact c_PT8 ht f hn k
  | 9 => exact c_PT9 ht f hn k
  | 10 => exact c_PT10 ht f hn k
  | 11 => exact c_PT11 ht f hn k
  | 12 => exact c_PT12 ht f hn k
  | 13 => exact c_PT13 ht f hn k
  | 14 => exact c_PT14 ht f hn k
  | 15 => exact c_PT15 ht f hn k
  | 0 => exact trivial
  | t + 16 => exact trivial
def c_g_ND_NODES : SM := (((([(1, (0, 15120)), (3, (448, 224000)), (5, (64, 32000))], []), ([((0, (39, 5)), .inl ([(1, 1)], 0)), ((0, (39, 0)), .inr (.inr (2, (40, true)))), ((2, (40, 1000)), .inl ([(3, 1)], 0)), ((0, (39, 1)), .inr (.inr (4, (41, true)))), ((4, (41, 1000)), .inl ([(5, 1)], 0))], ((k_pins 6, List.range 6), (6, ([(0, .inr (.inr (0, (39, true))))], []))))), [1]), ([], [((([], [([(1, 7), (3, (-1))], 0), ([(1, 1), (5, (-1))], 0)]), ([], ((k_pins 6, List.range 6), (6, ([], []))))), [])]))
def c_g_ND_NODESA : SM := (((([(1, (0, 16000)), (3, (448, 224000)), (5, (64, 32000))], []), ([((0, (48, 5)), .inl ([(1, 1)], 0)), ((0, (48, 0)), .inr (.inr (2, (40, true)))), ((2, (40, 1000)), .inl ([(3, 1)], 0)), ((0, (48, 1)), .inr (.inr (4, (41, true)))), ((4, (41, 1000)), .inl ([(5, 1)], 0))], ((k_pins 6, List.range 6), (6, ([(0, .inr (.inr (0, (48, true))))], []))))), [1]), ([], [((([], [([(1, 7), (3, (-1))], 0), ([(1, 1), (5, (-1))], 0)]), ([], ((k_pins 6, List.range 6), (6, ([], []))))), [])]))
def c_g_RW : SM := (((([(1, (0, 3)), (4, ((-2147483648), 2147483647))], [([(1, (-161)), (3, 1)], 0), ([(1, 161), (3, (-1))], 0)]), ([((0, (49, 6)), .inr (.inr (2, (55, true)))), ((2, (55, 5003)), .inl ([(4, 1)], 0))], ((k_pins 5, List.range 5), (5, ([(0, .inr (.inr (0, (49, true)))), (1, .inl ([(1, 1)], 0))], []))))), [7]), ([], [((([], [([(4, (-1))], 0), ([(4, 1)], (-40))]), ([], ((k_pins 5, List.range 5), (5, ([], []))))), [])]))
def c_g_TOLD0 : SM := (((([(1, (0, 160)), (3, ((-2147483648), 2147483647)), (4, ((-2147483648), 2147483647))], []), ([((0, (49, 16)), .inr (.inr (2, (56, true)))), ((2, (56, 0)), .inl ([(3, 1)], 0)), ((2, (56, 5001)), .inl ([(4, 1)], 0))], ((k_pins 5, List.range 5), (5, ([(0, .inr (.inr (0, (49, true)))), (3, .inl ([(1, 1)], 0))], []))))), []), ([], [((([], [([(1, 1)], 0), ([(3, (-1)), (4, 1)], 0), ([(3, 1), (4, (-1))], 0)]), ([], ((k_pins 5, List.range 5), (5, ([], []))))), []), ((([], [([(1, (-1))], 1)]), ([], ((k_pins 5, List.range 5), (5, ([], []))))), [])]))
def c_g_P0a : SM := (((([(1, (0, 40)), (3, ((-1), 40))], []), ([((0, (49, 39)), .inr (.inr (2, (74, true)))), ((2, (74, 5001)), .inl ([(3, 1)], 0))], ((k_pins 4, List.range 4), (4, ([(0, .inr (.inr (0, (49, true)))), (1, .inl ([(1, 1)], 0))], []))))), [8]), ([], [((([], [([(3, 1)], 1)]), ([], ((k_pins 4, List.range 4), (4, ([], []))))), []), ((([], [([(1, (-1))], 1)]), ([], ((k_pins 4, List.range 4), (4, ([], []))))), [])]))
def c_g_P0b : SM := (((([(1, (0, 40)), (3, ((-1), 40))], []), ([((0, (49, 40)), .inr (.inr (2, (75, true)))), ((2, (75, 5001)), .inl ([(3, 1)], 0))], ((k_pins 4, List.range 4), (4, ([(0, .inr (.inr (0, (49, true)))), (1, .inl ([(1, 1)], 0))], []))))), [8]), ([], [((([], [([(3, 1)], 1)]), ([], ((k_pins 4, List.range 4), (4, ([], []))))), []), ((([], [([(1, (-1))], 1)]), ([], ((k_pins 4, List.range 4), (4, ([], []))))), [])]))
def c_k_ND_NODES : KR := (((([(2, (64, 32000)), (3, ((-2147483648), 2147483647))], [([(2, (-1)), (3, 1)], 0)]), ([((0, (39, 1)), .inr (.inr (1, (41, true)))), ((1, (41, 1000)), .inl ([(2, 1)], 0))], ((k_pins 4, List.range 4), (4, ([(0, .inr (.inr (0, (39, true))))], [.inl ([(3, 1)], 0), .inr (.inr (0, (39, true)))]))))), [1]), [1])
def c_k_ND_NODESA : KR := (((([(2, (64, 32000)), (3, ((-2147483648), 2147483647))], [([(2, (-1)), (3, 1)], 0)]), ([((0, (48, 1)), .inr (.inr (1, (41, true)))), ((1, (41, 1000)), .inl ([(2, 1)], 0))], ((k_pins 4, List.range 4), (4, ([(0, .inr (.inr (0, (48, true))))], [.inl ([(3, 1)], 0), .inr (.inr (0, (48, true)))]))))), [1]), [1])
def c_k_RWt : KR := (((([(1, (0, 3)), (2, (0, 160)), (4, ((-2147483648), 2147483647))], [([(2, (-4294967296)), (4, 1)], (-40)), ([(2, (-4294967296)), (4, (-1))], 0)]), ([((0, (49, 6)), .inr (.inr (3, (55, true))))], ((k_pins 5, List.range 5), (5, ([(0, .inr (.inr (0, (49, true)))), (2, .inl ([(1, 1)], 0)), (3, .inl ([(2, 1)], 0))], [.inl ([(4, 1)], 0), .inl ([(1, 161), (2, 1)], 0), .inr (.inr (3, (55, true)))]))))), [7]), [7])
def c_k_RWc : KR := (((([(1, (0, 3)), (2, (0, 3)), (3, (0, 643)), (5, ((-2147483648), 2147483647))], [([(1, (-644)), (3, (-1)), (4, 1)], 0), ([(1, 644), (3, 1), (4, (-1))], 0)]), ([((0, (55, 5004)), .inl ([(5, 1)], 0))], ((k_pins 6, List.range 6), (6, ([(0, .inr (.inr (0, (55, true)))), (2, .inl ([(1, 1)], 0)), (3, .inl ([(2, 1)], 0)), (4, .inl ([(3, 1)], 0))], [.inl ([(5, 1)], 0), .inl ([(2, 644), (3, 1)], 0), .inr (.inr (0, (55, true)))]))))), [7]), [7])
def c_k_HSro : KR := (((([(1, (0, 40)), (2, (0, 5)), (5, (0, 41)), (7, ((-1), 15999))], [([(1, (-6)), (2, (-1)), (6, 1)], 0), ([(1, 6), (2, 1), (6, (-1))], 0), ([(1, 1), (5, (-1))], 1)]), ([((0, (49, 24)), .inr (.inr (3, (61, true)))), ((0, (49, 36)), .inr (.inr (4, (71, true)))), ((0, (49, 35)), .inl ([(5, 1)], 0)), ((4, (71, 5006)), .inl ([(7, 1)], 0))], ((k_pins 8, List.range 8), (8, ([(0, .inr (.inr (0, (49, true)))), (1, .inl ([(1, 1)], 0)), (2, .inl ([(2, 1)], 0))], [.inl ([(7, 1)], 0), .inl ([(2, 1)], 0), .inr (.inr (3, (61, true)))]))))), [4, 6]), [4])
end
section
-- GHOSTS AND KEEPERS, by hand
section
variable {ρ : Nat → Nat} {σ : Nat → Int} {α : Nat → Nat} {h : MH}
theorem fv_i {a k n : Nat} (hk : k < 1000) (f : t_fv σ α ρ h a k (.inl (le_s n))) : (h_i h a k).toInt = σ n := by
  unfold t_fv at f
  dsimp only at f
  rw [if_neg (by omega), t_kxl (by omega), le_sE] at f
  exact f
theorem fv_l {a n : Nat} (f : t_fv σ α ρ h a 1000 (.inl (le_s n))) : ((h_k h a).2 : Int) = σ n := by
  unfold t_fv at f
  dsimp only at f
  rw [if_pos rfl, le_sE] at f
  exact f
theorem fv_r {a k o : Nat} {q : Nat × Bool} (hk : k < 1000) (f : t_fv σ α ρ h a k (.inr (.inr (o, q)))) : h_r h a k = α o := by
  have := f.1
  rw [t_kxl (by omega)] at this
  exact this
end
theorem gv_nd {R : Nat} {ρ : Nat → Nat} {h : MH} {σ : Nat → Int} {α : Nat → Nat} (hR : R = 39 ∨ R = 48) (hk : t_nd ρ h) (w3 : t_ca σ α ρ h [((0, (R, 5)), .inl (le_s 1)), ((0, (R, 0)), .inr (.inr (2, (40, true)))), ((2, (40, 1000)), .inl (le_s 3)), ((0, (R, 1)), .inr (.inr (4, (41, true)))), ((4, (41, 1000)), .inl (le_s 5))]) : 7 * σ 1 - σ 3 ≤ 0 ∧ σ 1 - σ 5 ≤ 0 := by
  obtain ⟨⟨-, r0⟩, f1⟩ := w3 _ (List.mem_of_getElem? (i := 0) rfl)
  obtain ⟨-, f2⟩ := w3 _ (List.mem_of_getElem? (i := 1) rfl)
  obtain ⟨-, f3⟩ := w3 _ (List.mem_of_getElem? (i := 2) rfl)
  obtain ⟨-, f4⟩ := w3 _ (List.mem_of_getElem? (i := 3) rfl)
  obtain ⟨-, f5⟩ := w3 _ (List.mem_of_getElem? (i := 4) rfl)
  dsimp only at f1 f2 f3 f4 f5
  have g1 := fv_i (by decide) f1
  have g2 := fv_r (by decide) f2
  have g3 := fv_l f3
  have g4 := fv_r (by decide) f4
  have g5 := fv_l f5
  dsimp only at r0
  have k := hk (α 0) (by rw [r0]; exact hR)
  rw [g2, g4, g1] at k
  omega
theorem c_gv_ND_NODES : G_ok c_sp c_CC c_PT c_g_ND_NODES := by
  intro ρ K KA lv h hC hS hT
  obtain ⟨ht, σ, α, w1, w2, w3, w4, w5, w6, w7⟩ := hS
  obtain ⟨k1, k2⟩ := gv_nd (Or.inl rfl) (hT 1 (List.mem_singleton.mpr rfl)) w3
  refine ⟨_, List.mem_singleton.mpr rfl, ⟨ht, σ, α, ?_, ?_, ?_, w4, w5, ?_, trivial⟩, ?_⟩
  · intro q hq
    cases hq
  · intro q hq
    rcases List.mem_cons.mp hq with e | hq
    · rw [e]
      show 7 * σ 1 + (-1 * σ 3 + 0) + 0 ≤ 0
      omega
    · rcases List.mem_cons.mp hq with e | hq
      · rw [e]
        show 1 * σ 1 + (-1 * σ 5 + 0) + 0 ≤ 0
        omega
      · cases hq
  · intro q hq
    cases hq
  · intro q hq
    cases hq
  · intro t m
    cases m
theorem c_gv_ND_NODESA : G_ok c_sp c_CC c_PT c_g_ND_NODESA := by
  intro ρ K KA lv h hC hS hT
  obtain ⟨ht, σ, α, w1, w2, w3, w4, w5, w6, w7⟩ := hS
  obtain ⟨k1, k2⟩ := gv_nd (Or.inr rfl) (hT 1 (List.mem_singleton.mpr rfl)) w3
  refine ⟨_, List.mem_singleton.mpr rfl, ⟨ht, σ, α, ?_, ?_, ?_, w4, w5, ?_, trivial⟩, ?_⟩
  · intro q hq
    cases hq
  · intro q hq
    rcases List.mem_cons.mp hq with e | hq
    · rw [e]
      show 7 * σ 1 + (-1 * σ 3 + 0) + 0 ≤ 0
      omega
    · rcases List.mem_cons.mp hq with e | hq
      · rw [e]
        show 1 * σ 1 + (-1 * σ 5 + 0) + 0 ≤ 0
        omega
      · cases hq
  · intro q hq
    cases hq
  · intro q hq
    cases hq
  · intro t m
    cases m
theorem c_kv_ND_NODESA_46_13 : K_ok c_sp c_CC c_PT 46 13 c_k_ND_NODESA := by
  intro ρ K KA lv st h pc' lv' st' h' hC hS hT e
  obtain ⟨ht, σ, α, w1, w2, w3, w4, w5, w6, w7⟩ := hS
  obtain ⟨v1, q1, rfl, ⟨x, rfl, hx⟩, s1⟩ := t_sc w7
  obtain ⟨v2, q2, rfl, ⟨rfl, hr⟩, s2⟩ := t_sc s1
  obtain ⟨-, f4⟩ := w3 _ (List.mem_of_getElem? (i := 0) rfl)
  obtain ⟨-, f5⟩ := w3 _ (List.mem_of_getElem? (i := 1) rfl)
  dsimp only at f4 f5
  have g4 := fv_r (by decide) f4
  have g5 := fv_l f5
  have hc := w2 _ (List.mem_singleton.mpr rfl)
  rw [m_stx (rfl : m_at 46 13 = some (.putfield 32, 3)) (Or.inl rfl)] at e
  have e : e_put 46 32 13 lv (.int x :: .ref (α 0) :: q2) h = some (.inl (pc', lv', st', h')) := e
  unfold e_put at e
  rw [show m_fl 46 32 = some (0, 2, 5) from rfl] at e
  dsimp only at e
  split at e
  · cases e
    intro t mt
    rw [List.mem_singleton.mp mt]
    intro a ha
    have k := hT 1 (List.mem_singleton.mpr rfl) a ha
    refine ⟨k.1, ?_⟩
    show (h_i (h_si h (α 0) 5 x) a 5).toInt ≤ ((h_k h (h_r h a 1)).2 : Int)
    rw [s_siI]
    by_cases ea : a = α 0
    · rw [if_pos ⟨ea, rfl⟩, hx, ea, g4, g5]
      show 1 * σ 3 + 0 + 0 ≤ σ 2
      have hc : -1 * σ 2 + (1 * σ 3 + 0) + 0 ≤ 0 := hc
      omega
    · rw [if_neg (fun z => ea z.1)]
      exact k.2
  · cases e
-- places by words
theorem fv_s {ρ : Nat → Nat} {σ : Nat → Int} {α : Nat → Nat} {h : MH} {a : Nat} (n : Nat) {v : Nat} (f : t_fv σ α ρ h a (5000 + n) (.inl (le_s v))) : (h_i h a (σ n).toNat).toInt = σ v := by
  unfold t_fv t_kx at f
  dsimp only at f
  rw [if_neg (by omega), if_neg (by omega), Nat.add_sub_cancel_left, le_sE] at f
  exact f
theorem ks_ia {i pc : Nat} {lv : List (Nat × Value)} {q : List Value} {x j : Int32} {o : Nat} {h : MH} {pc' : Nat} {lv' : List (Nat × Value)} {st' : List Value} {h' : MH} (a : m_at i pc = some (.iastore, 1)) (e : m_st i pc lv (.int x :: .int j :: .ref o :: q) h = some (.inl (pc', lv', st', h'))) : h' = h_si h o j.toInt.toNat x ∧ 0 ≤ j.toInt ∧ j.toInt < ((h_k h o).2 : Int) := by
  rw [m_stx a (Or.inl rfl)] at e
  have e : e_iast pc lv (.int x :: .int j :: .ref o :: q) h = some (.inl (pc', lv', st', h')) := e
  unfold e_iast at e
  dsimp only at e
  split at e
  · next hc =>
    cases e
    have h9 := hc.2.2
    have h8 := m_inL h9
    unfold m_in at h9
    rw [Bool.and_eq_true] at h9
    have h7 := of_decide_eq_true h9.1
    rw [Int32.lt_iff_toInt_lt] at h7
    have h6 : (0 : Int32).toInt = 0 := by decide
    have h5 : j.toNatClampNeg = j.toInt.toNat := rfl
    exact ⟨rfl, by omega, by omega⟩
  · cases e
theorem c_gv_RW : G_ok c_sp c_CC c_PT c_g_RW := by
  intro ρ K KA lv h hC hS hT
  obtain ⟨ht, σ, α, w1, w2, w3, w4, w5, w6, w7⟩ := hS
  obtain ⟨⟨-, r0⟩, f1⟩ := w3 _ (List.mem_of_getElem? (i := 0) rfl)
  obtain ⟨-, f2⟩ := w3 _ (List.mem_of_getElem? (i := 1) rfl)
  dsimp only at f1 f2 r0
  have g1 := fv_r (by decide) f1
  have g2 := fv_s 3 f2
  have i1 := w1 _ (List.mem_of_getElem? (i := 0) rfl)
  have c1 : -161 * σ 1 + (1 * σ 3 + 0) + 0 ≤ 0 := w2 _ (List.mem_of_getElem? (i := 0) rfl)
  have c2 : 161 * σ 1 + (-1 * σ 3 + 0) + 0 ≤ 0 := w2 _ (List.mem_of_getElem? (i := 1) rfl)
  dsimp only at i1
  have k := (hT 7 (List.mem_singleton.mpr rfl)).2 (α 0) r0 (σ 1).toNat (by omega)
  unfold v_rw at k
  rw [g1, show 161 * (σ 1).toNat = (σ 3).toNat by omega, g2] at k
  refine ⟨_, List.mem_singleton.mpr rfl, ⟨ht, σ, α, ?_, ?_, ?_, w4, w5, ?_, trivial⟩, ?_⟩
  · intro q hq
    cases hq
  · intro q hq
    rcases List.mem_cons.mp hq with e | hq
    · rw [e]
      show -1 * σ 4 + 0 + 0 ≤ 0
      omega
    · rcases List.mem_cons.mp hq with e | hq
      · rw [e]
        show 1 * σ 4 + 0 + -40 ≤ 0
        omega
      · cases hq
  · intro q hq
    cases hq
  · intro q hq
    cases hq
  · intro t m
    cases m
theorem c_gv_TOLD0 : G_ok c_sp c_CC c_PT c_g_TOLD0 := by
  intro ρ K KA lv h hC hS hT
  obtain ⟨ht, σ, α, w1, w2, w3, w4, w5, w6, w7⟩ := hS
  obtain ⟨-, f2⟩ := w3 _ (List.mem_of_getElem? (i := 1) rfl)
  obtain ⟨-, f3⟩ := w3 _ (List.mem_of_getElem? (i := 2) rfl)
  dsimp only at f2 f3
  have g2 := fv_i (by decide) f2
  have g3 := fv_s 1 f3
  have i1 := w1 _ (List.mem_of_getElem? (i := 0) rfl)
  dsimp only at i1
  by_cases h0 : σ 1 = 0
  · rw [h0] at g3
    have g3 : (h_i h (α 2) 0).toInt = σ 4 := g3
    rw [g2] at g3
    refine ⟨_, List.mem_of_getElem? (i := 0) rfl, ⟨ht, σ, α, ?_, ?_, ?_, w4, w5, ?_, trivial⟩, ?_⟩
    · intro q hq
      cases hq
    · intro q hq
      rcases List.mem_cons.mp hq with e | hq
      · rw [e]
        show 1 * σ 1 + 0 + 0 ≤ 0
        omega
      · rcases List.mem_cons.mp hq with e | hq
        · rw [e]
          show -1 * σ 3 + (1 * σ 4 + 0) + 0 ≤ 0
          omega
        · rcases List.mem_cons.mp hq with e | hq
          · rw [e]
            show 1 * σ 3 + (-1 * σ 4 + 0) + 0 ≤ 0
            omega
          · cases hq
    · intro q hq
      cases hq
    · intro q hq
      cases hq
    · intro t m
      cases m
  · refine ⟨_, List.mem_of_getElem? (i := 1) rfl, ⟨ht, σ, α, ?_, ?_, ?_, w4, w5, ?_, trivial⟩, ?_⟩
    · intro q hq
      cases hq
    · intro q hq
      rcases List.mem_cons.mp hq with e | hq
      · rw [e]
        show -1 * σ 1 + 0 + 1 ≤ 0
        omega
      · cases hq
    · intro q hq
      cases hq
    · intro q hq
      cases hq
    · intro t m
      cases m
theorem gv_p0 {ρ : Nat → Nat} {σ : Nat → Int} {α : Nat → Nat} {h : MH} (x : Int) (i1 : 0 ≤ σ 1 ∧ σ 1 ≤ 40) (g2 : (h_i h (α 2) (σ 1).toNat).toInt = σ 3) (hx : (h_i h (α 2) 0).toInt = -1) : σ 3 = -1 ∨ 1 ≤ σ 1 := by
  by_cases h0 : σ 1 = 0
  · rw [h0] at g2
    have g2 : (h_i h (α 2) 0).toInt = σ 3 := g2
    omega
  · omega
theorem c_gv_P0a : G_ok c_sp c_CC c_PT c_g_P0a := by
  intro ρ K KA lv h hC hS hT
  obtain ⟨ht, σ, α, w1, w2, w3, w4, w5, w6, w7⟩ := hS
  obtain ⟨⟨-, r0⟩, f1⟩ := w3 _ (List.mem_of_getElem? (i := 0) rfl)
  obtain ⟨-, f2⟩ := w3 _ (List.mem_of_getElem? (i := 1) rfl)
  dsimp only at f1 f2 r0
  have g1 := fv_r (by decide) f1
  have g2 := fv_s 1 f2
  have i1 := w1 _ (List.mem_of_getElem? (i := 0) rfl)
  dsimp only at i1
  have k := ((hT 8 (List.mem_singleton.mpr rfl)).2 (α 0) r0).1
  unfold v_pa at k
  rw [g1] at k
  rcases gv_p0 (ρ := ρ) 0 i1 g2 k with h0 | h0
  · refine ⟨_, List.mem_of_getElem? (i := 0) rfl, ⟨ht, σ, α, ?_, ?_, ?_, w4, w5, ?_, trivial⟩, ?_⟩
    · intro q hq
      cases hq
    · intro q hq
      rcases List.mem_cons.mp hq with e | hq
      · rw [e]
        show 1 * σ 3 + 0 + 1 ≤ 0
        omega
      · cases hq
    · intro q hq
      cases hq
    · intro q hq
      cases hq
    · intro t m
      cases m
  · refine ⟨_, List.mem_of_getElem? (i := 1) rfl, ⟨ht, σ, α, ?_, ?_, ?_, w4, w5, ?_, trivial⟩, ?_⟩
    · intro q hq
      cases hq
    · intro q hq
      rcases List.mem_cons.mp hq with e | hq
      · rw [e]
        show -1 * σ 1 + 0 + 1 ≤ 0
        omega
      · cases hq
    · intro q hq
      cases hq
    · intro q hq
      cases hq
    · intro t m
      cases m
theorem c_gv_P0b : G_ok c_sp c_CC c_PT c_g_P0b := by
  intro ρ K KA lv h hC hS hT
  obtain ⟨ht, σ, α, w1, w2, w3, w4, w5, w6, w7⟩ := hS
  obtain ⟨⟨-, r0⟩, f1⟩ := w3 _ (List.mem_of_getElem? (i := 0) rfl)
  obtain ⟨-, f2⟩ := w3 _ (List.mem_of_getElem? (i := 1) rfl)
  dsimp only at f1 f2 r0
  have g1 := fv_r (by decide) f1
  have g2 := fv_s 1 f2
  have i1 := w1 _ (List.mem_of_getElem? (i := 0) rfl)
  dsimp only at i1
  have k := ((hT 8 (List.mem_singleton.mpr rfl)).2 (α 0) r0).2
  unfold v_pb at k
  rw [g1] at k
  rcases gv_p0 (ρ := ρ) 0 i1 g2 k with h0 | h0
  · refine ⟨_, List.mem_of_getElem? (i := 0) rfl, ⟨ht, σ, α, ?_, ?_, ?_, w4, w5, ?_, trivial⟩, ?_⟩
    · intro q hq
      cases hq
    · intro q hq
      rcases List.mem_cons.mp hq with e | hq
      · rw [e]
        show 1 * σ 3 + 0 + 1 ≤ 0
        omega
      · cases hq
    · intro q hq
      cases hq
    · intro q hq
      cases hq
    · intro t m
      cases m
  · refine ⟨_, List.mem_of_getElem? (i := 1) rfl, ⟨ht, σ, α, ?_, ?_, ?_, w4, w5, ?_, trivial⟩, ?_⟩
    · intro q hq
      cases hq
    · intro q hq
      rcases List.mem_cons.mp hq with e | hq
      · rw [e]
        show -1 * σ 1 + 0 + 1 ≤ 0
        omega
      · cases hq
    · intro q hq
      cases hq
    · intro q hq
      cases hq
    · intro t m
      cases m
theorem c_kv_RWt_187_151 : K_ok c_sp c_CC c_PT 187 151 c_k_RWt := by
  intro ρ K KA lv st h pc' lv' st' h' hC hS hT e
  obtain ⟨ht, σ, α, w1, w2, w3, w4, w5, w6, w7⟩ := hS
  obtain ⟨v1, q1, rfl, ⟨x, rfl, hx⟩, s1⟩ := t_sc w7
  obtain ⟨v2, q2, rfl, ⟨j, rfl, hj⟩, s2⟩ := t_sc s1
  obtain ⟨v3, q3, rfl, ⟨rfl, hr⟩, s3⟩ := t_sc s2
  have hx : x.toInt = 1 * σ 4 + 0 + 0 := hx
  have hj : j.toInt = 161 * σ 1 + (1 * σ 2 + 0) + 0 := hj
  have i1 := w1 _ (List.mem_of_getElem? (i := 0) rfl)
  have i2 := w1 _ (List.mem_of_getElem? (i := 1) rfl)
  dsimp only at i1 i2
  have c1 : -4294967296 * σ 2 + (1 * σ 4 + 0) + -40 ≤ 0 := w2 _ (List.mem_of_getElem? (i := 0) rfl)
  have c2 : -4294967296 * σ 2 + (-1 * σ 4 + 0) + 0 ≤ 0 := w2 _ (List.mem_of_getElem? (i := 1) rfl)
  obtain ⟨e1, j0, j1⟩ := ks_ia (rfl : m_at 187 151 = some (.iastore, 1)) e
  intro t mt
  rw [List.mem_singleton.mp mt]
  refine ⟨(hT 7 (List.mem_singleton.mpr rfl)).1, fun m hm q hq => ?_⟩
  have k := (hT 7 (List.mem_singleton.mpr rfl)).2 m hm q hq
  subst e1
  show 0 ≤ (h_i (h_si h (α 3) j.toInt.toNat x) (h_r h m 6) (161 * q)).toInt ∧ (h_i (h_si h (α 3) j.toInt.toNat x) (h_r h m 6) (161 * q)).toInt ≤ 40
  rw [s_siI]
  split
  · next hc =>
    have : σ 2 = 0 := by omega
    rw [hx]
    omega
  · exact k
theorem c_kv_RWc_290_24 : K_ok c_sp c_CC c_PT 290 24 c_k_RWc := by
  intro ρ K KA lv st h pc' lv' st' h' hC hS hT e
  obtain ⟨ht, σ, α, w1, w2, w3, w4, w5, w6, w7⟩ := hS
  obtain ⟨v1, q1, rfl, ⟨x, rfl, hx⟩, s1⟩ := t_sc w7
  obtain ⟨v2, q2, rfl, ⟨j, rfl, hj⟩, s2⟩ := t_sc s1
  obtain ⟨v3, q3, rfl, ⟨rfl, hr⟩, s3⟩ := t_sc s2
  obtain ⟨-, f1⟩ := w3 _ (List.mem_of_getElem? (i := 0) rfl)
  dsimp only at f1
  have g1 := fv_s 4 f1
  have hx : x.toInt = 1 * σ 5 + 0 + 0 := hx
  have hj : j.toInt = 644 * σ 2 + (1 * σ 3 + 0) + 0 := hj
  have i1 := w1 _ (List.mem_of_getElem? (i := 0) rfl)
  have i2 := w1 _ (List.mem_of_getElem? (i := 1) rfl)
  have i3 := w1 _ (List.mem_of_getElem? (i := 2) rfl)
  dsimp only at i1 i2 i3
  have c1 : -644 * σ 1 + (-1 * σ 3 + (1 * σ 4 + 0)) + 0 ≤ 0 := w2 _ (List.mem_of_getElem? (i := 0) rfl)
  have c2 : 644 * σ 1 + (1 * σ 3 + (-1 * σ 4 + 0)) + 0 ≤ 0 := w2 _ (List.mem_of_getElem? (i := 1) rfl)
  obtain ⟨e1, j0, j1⟩ := ks_ia (rfl : m_at 290 24 = some (.iastore, 1)) e
  intro t mt
  rw [List.mem_singleton.mp mt]
  refine ⟨(hT 7 (List.mem_singleton.mpr rfl)).1, fun m hm q hq => ?_⟩
  have k9 := (hT 7 (List.mem_singleton.mpr rfl)).2 m hm
  have k := k9 q hq
  subst e1
  show 0 ≤ (h_i (h_si h (α 0) j.toInt.toNat x) (h_r h m 6) (161 * q)).toInt ∧ (h_i (h_si h (α 0) j.toInt.toNat x) (h_r h m 6) (161 * q)).toInt ≤ 40
  rw [s_siI]
  split
  · next hc =>
    obtain ⟨hc1, hc2⟩ := hc
    have k2 := k9 (σ 4 / 161).toNat (by omega)
    unfold v_rw at k2
    rw [hc1, show 161 * (σ 4 / 161).toNat = (σ 4).toNat by omega, g1] at k2
    rw [hx]
    omega
  · exact k
theorem c_kv_HSro_208_24 : K_ok c_sp c_CC c_PT 208 24 c_k_HSro := by
  intro ρ K KA lv st h pc' lv' st' h' hC hS hT e
  obtain ⟨ht, σ, α, w1, w2, w3, w4, w5, w6, w7⟩ := hS
  obtain ⟨v1, q1, rfl, ⟨x, rfl, hx⟩, s1⟩ := t_sc w7
  obtain ⟨v2, q2, rfl, ⟨j, rfl, hj⟩, s2⟩ := t_sc s1
  obtain ⟨v3, q3, rfl, ⟨rfl, hr⟩, s3⟩ := t_sc s2
  obtain ⟨⟨-, r0⟩, f1⟩ := w3 _ (List.mem_of_getElem? (i := 0) rfl)
  obtain ⟨-, f2⟩ := w3 _ (List.mem_of_getElem? (i := 1) rfl)
  obtain ⟨-, f3⟩ := w3 _ (List.mem_of_getElem? (i := 2) rfl)
  obtain ⟨-, f4⟩ := w3 _ (List.mem_of_getElem? (i := 3) rfl)
  dsimp only at f1 f2 f3 f4 r0
  have g1 := fv_r (by decide) f1
  have g2 := fv_r (by decide) f2
  have g3 := fv_i (by decide) f3
  have g4 := fv_s 6 f4
  have hx : x.toInt = 1 * σ 7 + 0 + 0 := hx
  have hj : j.toInt = 1 * σ 2 + 0 + 0 := hj
  have i1 := w1 _ (List.mem_of_getElem? (i := 0) rfl)
  have i2 := w1 _ (List.mem_of_getElem? (i := 1) rfl)
  dsimp only at i1 i2
  have c1 : -6 * σ 1 + (-1 * σ 2 + (1 * σ 6 + 0)) + 0 ≤ 0 := w2 _ (List.mem_of_getElem? (i := 0) rfl)
  have c2 : 6 * σ 1 + (1 * σ 2 + (-1 * σ 6 + 0)) + 0 ≤ 0 := w2 _ (List.mem_of_getElem? (i := 1) rfl)
  have c3 : 1 * σ 1 + (-1 * σ 5 + 0) + 1 ≤ 0 := w2 _ (List.mem_of_getElem? (i := 2) rfl)
  obtain ⟨e1, j0, j1⟩ := ks_ia (rfl : m_at 208 24 = some (.iastore, 1)) e
  intro t mt
  rw [List.mem_singleton.mp mt]
  refine ⟨(hT 4 (List.mem_of_getElem? (i := 0) rfl)).1, fun m hm r hr6 => ?_⟩
  have k := (hT 4 (List.mem_of_getElem? (i := 0) rfl)).2 m hm r hr6
  have k6 := (hT 6 (List.mem_of_getElem? (i := 1) rfl)).2 m hm (σ 1).toNat (σ 2).toNat
  have em := (hT 4 (List.mem_of_getElem? (i := 0) rfl)).1 m (α 0) hm r0
  subst e1
  have d0 : α 3 ≠ h_r h m 22 := fun z => by
    have p1 := (th_rf ht (R := 49) (by decide) rfl hm (k := 22) rfl (fun z => by cases z)).2
    have p2 := (th_rf ht (R := 49) (by decide) rfl r0 (k := 24) rfl (fun z => by cases z)).2
    rw [g1, z, p1] at p2
    cases p2
  have erk : v_rk (h_si h (α 3) j.toInt.toNat x) m = v_rk h m := funext (fun v => by
    show (h_i (h_si h (α 3) j.toInt.toNat x) (h_r h m 22) v).toInt = _
    rw [s_siI, if_neg (fun z => d0 z.1.symm)]
    rfl)
  have en : v_n (h_si h (α 3) j.toInt.toNat x) m = v_n h m := by
    show (h_i (h_si h (α 3) j.toInt.toNat x) m 17).toInt = _
    rw [s_siI, if_neg (fun z => by
      have p2 := (th_rf ht (R := 49) (by decide) rfl r0 (k := 24) rfl (fun z => by cases z)).2
      rw [g1, ← z.1, hm] at p2
      cases p2)]
    rfl
  rw [erk, en]
  show p_rt (v_n h m) (v_rk h m) (h_i (h_si h (α 3) j.toInt.toNat x) (h_r h m 24) r).toInt r
  rw [s_siI]
  split
  · next hc =>
    have k7 := k6 (by unfold v_vs; rw [em, g3]; omega) (by omega)
    unfold v_ro at k7
    rw [em, g2, show 6 * (σ 1).toNat + (σ 2).toNat = (σ 6).toNat by omega, g4] at k7
    rw [em, show r = (σ 2).toNat by omega, show x.toInt = σ 7 by omega]
    exact k7
  · exact k
end
