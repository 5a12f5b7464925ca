-- A LINE, A TEXT: what comes of it, told of the bytes alone
abbrev RLS : Type := Nat × (Nat × (Int × (Int × (Nat → Int))))
-- the place; the lines begun; the first fault, where; what is told
def ls_p (S : RLS) : Nat := S.1
def ls_g (S : RLS) : Nat := S.2.1
def ls_f (S : RLS) : Int := S.2.2.1
def ls_l (S : RLS) : Int := S.2.2.2.1
def ls_t (S : RLS) : Nat → Int := S.2.2.2.2
def ls_at (p : Nat) (S : RLS) : RLS := (p, S.2)
def ls_note (w : Int) (s : Nat) (S : RLS) : RLS := if ls_f S = 0 then (S.1, (S.2.1, (w, ((s : Int), S.2.2.2.2)))) else S
def ls_bad (s : Nat) (S : RLS) : RLS := (S.1, (S.2.1, (1, ((s : Int), S.2.2.2.2))))
def ls_set (j : Nat) (v : Int) (S : RLS) : RLS := (S.1, (S.2.1, (S.2.2.1, (S.2.2.2.1, m_u S.2.2.2.2 j v))))
def ls_up (S : RLS) : RLS := (S.1, (S.2.1 + 1, S.2.2))
def rd_lim (k : Int) : List Int := if k = 1 then [40, 99] else if k = 2 then [40, 40] else if k = 3 then [40] else if k = 4 then [40, 39, 99] else if k = 5 then [40, 99] else []
def rd_num (l : Int) (i : Nat) (q : Nat × (Nat × (Int × Int))) (S : RLS) : RLS :=
  let S2 := if l < rt_v q then ls_note 2 (rt_s q) (ls_at (rt_b q) S) else ls_at (rt_b q) S
  if ls_g S ≤ 40 then ls_set (4 * (ls_g S - 1) + 2 + i) (rt_v q) S2 else S2
def rd_nums (T : Nat → Int) (n : Nat) : List Int → Nat → RLS → Bool × RLS
  | [], _, S => (true, S)
  | l :: r, i, S => if rt_t (rd_tk T n (ls_p S)) = 2 then rd_nums T n r (i + 1) (rd_num l i (rd_tk T n (ls_p S)) S) else (false, ls_bad (rt_s (rd_tk T n (ls_p S))) (ls_at (rt_b (rd_tk T n (ls_p S))) S))
-- an act begun
def rd_beg (q : Nat × (Nat × (Int × Int))) (S : RLS) : RLS :=
  ls_up (if 40 ≤ ls_g S then ls_note 3 (rt_s q) (ls_at (rt_b q) S) else ls_set (4 * ls_g S + 4) (-1) (ls_set (4 * ls_g S + 3) (-1) (ls_set (4 * ls_g S + 2) (-1) (ls_set (4 * ls_g S + 1) (rt_v q) (ls_at (rt_b q) S)))))
-- the mark behind it
def rd_mark (T : Nat → Int) (n : Nat) (S : RLS) : Nat × RLS := if rt_t (rd_tk T n (ls_p S)) = 3 then (2, ls_at (rt_b (rd_tk T n (ls_p S))) S) else (1, ls_bad (rt_s (rd_tk T n (ls_p S))) (ls_at (rt_b (rd_tk T n (ls_p S))) S))
-- 0 the end, 1 it goes no further, 2 it goes on
def rd_line (T : Nat → Int) (n : Nat) (S : RLS) : Nat × RLS :=
  if rt_t (rd_tk T n (ls_p S)) = 0 then (0, ls_at (rt_b (rd_tk T n (ls_p S))) S)
  else if rt_t (rd_tk T n (ls_p S)) = 1 ∧ 0 ≤ rt_v (rd_tk T n (ls_p S)) then
    (if (rd_nums T n (rd_lim (rt_v (rd_tk T n (ls_p S)))) 0 (rd_beg (rd_tk T n (ls_p S)) S)).1 = true then rd_mark T n (rd_nums T n (rd_lim (rt_v (rd_tk T n (ls_p S)))) 0 (rd_beg (rd_tk T n (ls_p S)) S)).2
     else (1, (rd_nums T n (rd_lim (rt_v (rd_tk T n (ls_p S)))) 0 (rd_beg (rd_tk T n (ls_p S)) S)).2))
  else (1, ls_bad (rt_s (rd_tk T n (ls_p S))) (ls_at (rt_b (rd_tk T n (ls_p S))) S))
def rd_run (T : Nat → Int) (n : Nat) : Nat → RLS → Bool × RLS
  | 0, S => (true, S)
  | d + 1, S => if (rd_line T n S).1 = 0 then (true, (rd_line T n S).2) else if (rd_line T n S).1 = 1 then (false, (rd_line T n S).2) else rd_run T n d (rd_line T n S).2
-- the whole text: at its end a text without acts is a fault of its own
def rd_fin (n : Nat) (S : RLS) : RLS := if ls_g S = 0 then ls_note 4 n S else S
def rd_all (T : Nat → Int) (n : Nat) (t : Nat → Int) : RLS := rd_fin n (rd_run T n 601 (0, (0, (0, (-1, t))))).2
-- what is known of a token
theorem rd_kdB {T : Nat → Int} {s b : Nat} : ∀ (k : Nat), -1 ≤ rd_kd T s b k ∧ rd_kd T s b k < (k : Int)
  | 0 => ⟨Int.le_refl _, by show (-1 : Int) < 0; omega⟩
  | k + 1 => by
    rw [rd_kd]
    split
    · omega
    · have := rd_kdB (T := T) (s := s) (b := b) k
      omega
theorem rd_goP {f : Int → Bool} {T : Nat → Int} {n s : Nat} (sn : s < n) (h : f (T s) = true) : s < rd_go f T (n - s) s := by
  have e : n - s = (n - s - 1) + 1 := by omega
  rw [e, rd_goS h]
  have := (rd_goB (f := f) (T := T) (n - s - 1) (s + 1)).1
  omega
theorem rd_tkB {T : Nat → Int} {n p : Nat} (pn : p ≤ n) : (p ≤ rt_s (rd_tk T n p) ∧ rt_s (rd_tk T n p) ≤ rt_b (rd_tk T n p) ∧ rt_b (rd_tk T n p) ≤ n) ∧ (rt_t (rd_tk T n p) ≠ 0 → rt_s (rd_tk T n p) < rt_b (rd_tk T n p)) ∧ (rt_t (rd_tk T n p) = 0 → rt_s (rd_tk T n p) = n) ∧ (0 ≤ rt_t (rd_tk T n p) ∧ rt_t (rd_tk T n p) ≤ 4) ∧ (rt_t (rd_tk T n p) = 1 → -1 ≤ rt_v (rd_tk T n p) ∧ rt_v (rd_tk T n p) ≤ 5 ∧ rt_v (rd_tk T n p) = rd_kd T (rt_s (rd_tk T n p)) (rt_b (rd_tk T n p)) 6) ∧ (rt_t (rd_tk T n p) = 2 → 0 ≤ rt_v (rd_tk T n p) ∧ rt_v (rd_tk T n p) ≤ 99) := by
  have hb := rd_goB (f := rd_ws) (T := T) (n - p) p
  generalize hs : rd_go rd_ws T (n - p) p = s at hb
  by_cases sn : n ≤ s
  · have e : rd_tk T n p = (s, (s, (0, -1))) := by
      rw [← hs]
      exact rd_tk0 (by omega)
    rw [e]
    refine ⟨⟨hb.1, Nat.le_refl _, ?_⟩, fun z => absurd rfl z, fun _ => ?_, ⟨by show (0 : Int) ≤ 0; decide, by show (0 : Int) ≤ 4; decide⟩, fun z => absurd (show (0 : Int) = 1 from z) (by decide), fun z => absurd (show (0 : Int) = 2 from z) (by decide)⟩
    · show s ≤ n
      omega
    · show s = n
      omega
  · by_cases ha : rd_al (T s) = true
    · rw [rd_tk1 hs (by omega) ha]
      have h1 := rd_goB (f := rd_al) (T := T) (n - s) s
      have h2 := rd_kdB (T := T) (s := s) (b := rd_go rd_al T (n - s) s) 6
      have h3 := rd_goP (n := n) (by omega) ha
      refine ⟨⟨hb.1, h1.1, ?_⟩, fun _ => h3, fun z => absurd (show (1 : Int) = 0 from z) (by decide), ⟨by show (0 : Int) ≤ 1; decide, by show (1 : Int) ≤ 4; decide⟩, fun _ => ⟨h2.1, ?_, rfl⟩, fun z => absurd (show (1 : Int) = 2 from z) (by decide)⟩
      · show rd_go rd_al T (n - s) s ≤ n
        omega
      · show rd_kd T s _ 6 ≤ 5
        omega
    · have ha : rd_al (T s) = false := by simpa using ha
      by_cases hd : rd_dg (T s) = true
      · rw [rd_tk2 hs (by omega) ha hd]
        have h1 := rd_goB (f := rd_dg) (T := T) (n - s) s
        have h3 := rd_goP (n := n) (by omega) hd
        have h4 := rd_dgT.mp hd
        have ht : ∀ c : Int, c = (if rd_go rd_dg T (n - s) s - s ≤ 2 then 2 else 4) → 0 ≤ c ∧ c ≤ 4 ∧ c ≠ 0 ∧ c ≠ 1 := fun c e => by
          split at e <;> omega
        obtain ⟨t0, t4, tn0, tn1⟩ := ht _ rfl
        refine ⟨⟨hb.1, h1.1, ?_⟩, fun _ => h3, fun z => absurd z tn0, ⟨t0, t4⟩, fun z => absurd z tn1, fun z => ?_⟩
        · show rd_go rd_dg T (n - s) s ≤ n
          omega
        · have z : (if rd_go rd_dg T (n - s) s - s ≤ 2 then (2 : Int) else 4) = 2 := z
          show 0 ≤ rd_nb T s _ ∧ rd_nb T s _ ≤ 99
          unfold rd_nb
          by_cases e1 : rd_go rd_dg T (n - s) s = s + 1
          · rw [if_pos e1]
            omega
          · rw [if_neg e1]
            have h2 : rd_go rd_dg T (n - s) s - s ≤ 2 := by
              split at z
              · assumption
              · omega
            have h5 := rd_dgT.mp (rd_goA (f := rd_dg) (T := T) (n - s) s (s + 1) (by omega) (by omega))
            omega
      · have hd : rd_dg (T s) = false := by simpa using hd
        rw [rd_tk3 hs (by omega) ha hd]
        have ht : ∀ c : Int, c = (if T s = 59 then 3 else 4) → 0 ≤ c ∧ c ≤ 4 ∧ c ≠ 0 ∧ c ≠ 1 ∧ c ≠ 2 := fun c e => by
          split at e <;> omega
        obtain ⟨t0, t4, tn0, tn1, tn2⟩ := ht _ rfl
        refine ⟨⟨hb.1, ?_, ?_⟩, fun _ => ?_, fun z => absurd z tn0, ⟨t0, t4⟩, fun z => absurd z tn1, fun z => absurd z tn2⟩
        · show s ≤ s + 1
          omega
        · show s + 1 ≤ n
          omega
        · show s < s + 1
          omega
-- a state read by its parts
theorem ls_noteE {w : Int} {s : Nat} {S : RLS} : ls_p (ls_note w s S) = ls_p S ∧ ls_g (ls_note w s S) = ls_g S ∧ ls_t (ls_note w s S) = ls_t S ∧ ls_f (ls_note w s S) = (if ls_f S = 0 then w else ls_f S) ∧ ls_l (ls_note w s S) = (if ls_f S = 0 then (s : Int) else ls_l S) := by
  unfold ls_note
  split
  · exact ⟨rfl, rfl, rfl, rfl, rfl⟩
  · exact ⟨rfl, rfl, rfl, rfl, rfl⟩
theorem rd_numE {l : Int} {i : Nat} {q : Nat × (Nat × (Int × Int))} {S : RLS} : ls_p (rd_num l i q S) = rt_b q ∧ ls_g (rd_num l i q S) = ls_g S ∧ ls_t (rd_num l i q S) = (if ls_g S ≤ 40 then m_u (ls_t S) (4 * (ls_g S - 1) + 2 + i) (rt_v q) else ls_t S) ∧ ls_f (rd_num l i q S) = (if l < rt_v q ∧ ls_f S = 0 then 2 else ls_f S) ∧ ls_l (rd_num l i q S) = (if l < rt_v q ∧ ls_f S = 0 then (rt_s q : Int) else ls_l S) := by
  have k : ∀ S2 : RLS, ls_p S2 = rt_b q → ls_g S2 = ls_g S → ls_t S2 = ls_t S → ls_f S2 = (if l < rt_v q ∧ ls_f S = 0 then 2 else ls_f S) → ls_l S2 = (if l < rt_v q ∧ ls_f S = 0 then (rt_s q : Int) else ls_l S) → ls_p (if ls_g S ≤ 40 then ls_set (4 * (ls_g S - 1) + 2 + i) (rt_v q) S2 else S2) = rt_b q ∧ ls_g (if ls_g S ≤ 40 then ls_set (4 * (ls_g S - 1) + 2 + i) (rt_v q) S2 else S2) = ls_g S ∧ ls_t (if ls_g S ≤ 40 then ls_set (4 * (ls_g S - 1) + 2 + i) (rt_v q) S2 else S2) = (if ls_g S ≤ 40 then m_u (ls_t S) (4 * (ls_g S - 1) + 2 + i) (rt_v q) else ls_t S) ∧ ls_f (if ls_g S ≤ 40 then ls_set (4 * (ls_g S - 1) + 2 + i) (rt_v q) S2 else S2) = (if l < rt_v q ∧ ls_f S = 0 then 2 else ls_f S) ∧ ls_l (if ls_g S ≤ 40 then ls_set (4 * (ls_g S - 1) + 2 + i) (rt_v q) S2 else S2) = (if l < rt_v q ∧ ls_f S = 0 then (rt_s q : Int) else ls_l S) := fun S2 e1 e2 e3 e4 e5 => by
    by_cases h4 : ls_g S ≤ 40
    · rw [if_pos h4, if_pos h4]
      exact ⟨e1, e2, by rw [← e3]; rfl, e4, e5⟩
    · rw [if_neg h4, if_neg h4]
      exact ⟨e1, e2, e3, e4, e5⟩
  have p : ls_p (if l < rt_v q then ls_note 2 (rt_s q) (ls_at (rt_b q) S) else ls_at (rt_b q) S) = rt_b q ∧ ls_g (if l < rt_v q then ls_note 2 (rt_s q) (ls_at (rt_b q) S) else ls_at (rt_b q) S) = ls_g S ∧ ls_t (if l < rt_v q then ls_note 2 (rt_s q) (ls_at (rt_b q) S) else ls_at (rt_b q) S) = ls_t S ∧ ls_f (if l < rt_v q then ls_note 2 (rt_s q) (ls_at (rt_b q) S) else ls_at (rt_b q) S) = (if l < rt_v q ∧ ls_f S = 0 then 2 else ls_f S) ∧ ls_l (if l < rt_v q then ls_note 2 (rt_s q) (ls_at (rt_b q) S) else ls_at (rt_b q) S) = (if l < rt_v q ∧ ls_f S = 0 then (rt_s q : Int) else ls_l S) := by
    by_cases h1 : l < rt_v q
    · obtain ⟨n1, n2, n3, n4, n5⟩ := ls_noteE (w := 2) (s := rt_s q) (S := ls_at (rt_b q) S)
      rw [if_pos h1]
      refine ⟨n1, n2, n3, ?_, ?_⟩
      · rw [n4]
        by_cases h2 : ls_f S = 0
        · rw [if_pos (show ls_f (ls_at (rt_b q) S) = 0 from h2), if_pos (show l < rt_v q ∧ ls_f S = 0 from ⟨h1, h2⟩)]
        · rw [if_neg (show ¬ ls_f (ls_at (rt_b q) S) = 0 from h2), if_neg (show ¬ (l < rt_v q ∧ ls_f S = 0) from fun z => h2 z.2)]
          rfl
      · rw [n5]
        by_cases h2 : ls_f S = 0
        · rw [if_pos (show ls_f (ls_at (rt_b q) S) = 0 from h2), if_pos (show l < rt_v q ∧ ls_f S = 0 from ⟨h1, h2⟩)]
        · rw [if_neg (show ¬ ls_f (ls_at (rt_b q) S) = 0 from h2), if_neg (show ¬ (l < rt_v q ∧ ls_f S = 0) from fun z => h2 z.2)]
          rfl
    · rw [if_neg h1, if_neg (show ¬ (l < rt_v q ∧ ls_f S = 0) from fun z => h1 z.1), if_neg (show ¬ (l < rt_v q ∧ ls_f S = 0) from fun z => h1 z.1)]
      exact ⟨rfl, rfl, rfl, rfl, rfl⟩
  exact k _ p.1 p.2.1 p.2.2.1 p.2.2.2.1 p.2.2.2.2
-- what an act begun tells
def rd_bt (g : Nat) (v : Int) (t : Nat → Int) : Nat → Int := m_u (m_u (m_u (m_u t (4 * g + 1) v) (4 * g + 2) (-1)) (4 * g + 3) (-1)) (4 * g + 4) (-1)
theorem rd_begE {q : Nat × (Nat × (Int × Int))} {S : RLS} : ls_p (rd_beg q S) = rt_b q ∧ ls_g (rd_beg q S) = ls_g S + 1 ∧ ls_t (rd_beg q S) = (if 40 ≤ ls_g S then ls_t S else rd_bt (ls_g S) (rt_v q) (ls_t S)) ∧ ls_f (rd_beg q S) = (if 40 ≤ ls_g S ∧ ls_f S = 0 then 3 else ls_f S) ∧ ls_l (rd_beg q S) = (if 40 ≤ ls_g S ∧ ls_f S = 0 then (rt_s q : Int) else ls_l S) := by
  unfold rd_beg
  by_cases h1 : 40 ≤ ls_g S
  · obtain ⟨n1, n2, n3, n4, n5⟩ := ls_noteE (w := 3) (s := rt_s q) (S := ls_at (rt_b q) S)
    rw [if_pos h1, if_pos h1]
    refine ⟨n1, congrArg (· + 1) n2, n3, ?_, ?_⟩
    · refine n4.trans ?_
      by_cases h2 : ls_f S = 0
      · rw [if_pos (show ls_f (ls_at (rt_b q) S) = 0 from h2), if_pos (show 40 ≤ ls_g S ∧ ls_f S = 0 from ⟨h1, h2⟩)]
      · rw [if_neg (show ¬ ls_f (ls_at (rt_b q) S) = 0 from h2), if_neg (show ¬ (40 ≤ ls_g S ∧ ls_f S = 0) from fun z => h2 z.2)]
        rfl
    · refine n5.trans ?_
      by_cases h2 : ls_f S = 0
      · rw [if_pos (show ls_f (ls_at (rt_b q) S) = 0 from h2), if_pos (show 40 ≤ ls_g S ∧ ls_f S = 0 from ⟨h1, h2⟩)]
      · rw [if_neg (show ¬ ls_f (ls_at (rt_b q) S) = 0 from h2), if_neg (show ¬ (40 ≤ ls_g S ∧ ls_f S = 0) from fun z => h2 z.2)]
        rfl
  · rw [if_neg h1, if_neg h1, if_neg (show ¬ (40 ≤ ls_g S ∧ ls_f S = 0) from fun z => h1 z.1), if_neg (show ¬ (40 ≤ ls_g S ∧ ls_f S = 0) from fun z => h1 z.1)]
    exact ⟨rfl, rfl, rfl, rfl, rfl⟩
