-- READING A TEXT: what a token is, told of the bytes alone
def rd_ws (c : Int) : Bool := decide (c = 10) || decide (c = 32)
def rd_al (c : Int) : Bool := decide (97 ≤ c) && decide (c ≤ 122)
def rd_dg (c : Int) : Bool := decide (48 ≤ c) && decide (c ≤ 57)
theorem rd_wsT {c : Int} : rd_ws c = true ↔ c = 10 ∨ c = 32 := by unfold rd_ws; rw [Bool.or_eq_true, decide_eq_true_iff, decide_eq_true_iff]
theorem rd_alT {c : Int} : rd_al c = true ↔ 97 ≤ c ∧ c ≤ 122 := by unfold rd_al; rw [Bool.and_eq_true, decide_eq_true_iff, decide_eq_true_iff]
theorem rd_dgT {c : Int} : rd_dg c = true ↔ 48 ≤ c ∧ c ≤ 57 := by unfold rd_dg; rw [Bool.and_eq_true, decide_eq_true_iff, decide_eq_true_iff]
theorem rd_wsF {c : Int} : rd_ws c = false ↔ c ≠ 10 ∧ c ≠ 32 := by rw [← Bool.not_eq_true, rd_wsT, not_or]
theorem rd_alF {c : Int} : rd_al c = false ↔ c < 97 ∨ 122 < c := by rw [← Bool.not_eq_true, rd_alT]; omega
theorem rd_dgF {c : Int} : rd_dg c = false ↔ c < 48 ∨ 57 < c := by rw [← Bool.not_eq_true, rd_dgT]; omega
-- on while f holds, d places at most
def rd_go (f : Int → Bool) (T : Nat → Int) : Nat → Nat → Nat
  | 0, p => p
  | d + 1, p => if f (T p) = true then rd_go f T d (p + 1) else p
theorem rd_goS {f : Int → Bool} {T : Nat → Int} {d p : Nat} (h : f (T p) = true) : rd_go f T (d + 1) p = rd_go f T d (p + 1) := by rw [rd_go, if_pos h]
theorem rd_goE {f : Int → Bool} {T : Nat → Int} {d p : Nat} (h : f (T p) = false) : rd_go f T d p = p := by
  cases d with
  | zero => rfl
  | succ d => rw [rd_go, if_neg (by rw [h]; decide)]
theorem rd_goB {f : Int → Bool} {T : Nat → Int} : ∀ (d p : Nat), p ≤ rd_go f T d p ∧ rd_go f T d p ≤ p + d
  | 0, p => ⟨Nat.le_refl _, Nat.le_refl _⟩
  | d + 1, p => by
    rw [rd_go]
    split
    · have := rd_goB (f := f) (T := T) d (p + 1)
      omega
    · omega
-- all places on the way hold f
theorem rd_goA {f : Int → Bool} {T : Nat → Int} : ∀ (d p j : Nat), p ≤ j → j < rd_go f T d p → f (T j) = true
  | 0, p, j, h1, h2 => by rw [rd_go] at h2; omega
  | d + 1, p, j, h1, h2 => by
    rw [rd_go] at h2
    split at h2
    · next h =>
      by_cases e : j = p
      · rw [e]; exact h
      · exact rd_goA d (p + 1) j (by omega) h2
    · omega
-- the end is no such place
theorem rd_goN {f : Int → Bool} {T : Nat → Int} : ∀ (d p : Nat), rd_go f T d p < p + d → f (T (rd_go f T d p)) = false
  | 0, p, h => by rw [rd_go] at h; omega
  | d + 1, p, h => by
    rw [rd_go] at h ⊢
    by_cases e : f (T p) = true
    · rw [if_pos e] at h ⊢
      exact rd_goN d (p + 1) (by omega)
    · rw [if_neg e]
      simpa using e
-- the names of the kinds
-- the word from s to b is this one
def rd_ib (T : Nat → Int) (s b : Nat) (l : List Int) : Bool := decide (b = s + l.length) && (List.range l.length).all (fun i => decide (T (s + i) = l.getD i 0))
def rd_is (T : Nat → Int) (s b : Nat) (l : List Int) : Prop := rd_ib T s b l = true
theorem rd_isT {T : Nat → Int} {s b : Nat} {l : List Int} : rd_is T s b l ↔ b = s + l.length ∧ ∀ i, i < l.length → T (s + i) = l.getD i 0 := by
  unfold rd_is rd_ib
  rw [Bool.and_eq_true, decide_eq_true_iff, List.all_eq_true]
  exact ⟨fun h => ⟨h.1, fun i hi => of_decide_eq_true (h.2 i (List.mem_range.mpr hi))⟩, fun h => ⟨h.1, fun i hi => decide_eq_true (h.2 i (List.mem_range.mp hi))⟩⟩
-- which kind it names (the last one that it tells; they differ)
def rd_kd (T : Nat → Int) (s b : Nat) : Nat → Int
  | 0 => -1
  | k + 1 => if rd_ib T s b (rd_nm k) = true then (k : Int) else rd_kd T s b k
-- a number of one or two digits
def rd_nb (T : Nat → Int) (s b : Nat) : Int := if b = s + 1 then T s - 48 else 10 * (T s - 48) + (T (s + 1) - 48)
-- a token: 0 the end, 1 a word, 2 a number, 3 the mark, 4 none of these
def rt_s (q : Nat × (Nat × (Int × Int))) : Nat := q.1
def rt_b (q : Nat × (Nat × (Int × Int))) : Nat := q.2.1
def rt_t (q : Nat × (Nat × (Int × Int))) : Int := q.2.2.1
def rt_v (q : Nat × (Nat × (Int × Int))) : Int := q.2.2.2
def rd_tk (T : Nat → Int) (n p : Nat) : Nat × (Nat × (Int × Int)) :=
  let s := rd_go rd_ws T (n - p) p
  if n ≤ s then (s, (s, (0, -1)))
  else if rd_al (T s) = true then (let b := rd_go rd_al T (n - s) s; (s, (b, (1, rd_kd T s b 6))))
  else if rd_dg (T s) = true then (let b := rd_go rd_dg T (n - s) s; (s, (b, (if b - s ≤ 2 then 2 else 4, rd_nb T s b))))
  else (s, (s + 1, (if T s = 59 then 3 else 4, -1)))
theorem rd_tk0 {T : Nat → Int} {n p : Nat} (h : n ≤ rd_go rd_ws T (n - p) p) : rd_tk T n p = (rd_go rd_ws T (n - p) p, (rd_go rd_ws T (n - p) p, (0, -1))) := by
  unfold rd_tk
  rw [if_pos h]
theorem rd_tk1 {T : Nat → Int} {n p s : Nat} (e : rd_go rd_ws T (n - p) p = s) (h : s < n) (ha : rd_al (T s) = true) : rd_tk T n p = (s, (rd_go rd_al T (n - s) s, (1, rd_kd T s (rd_go rd_al T (n - s) s) 6))) := by
  unfold rd_tk
  dsimp only
  rw [e, if_neg (by omega), if_pos ha]
theorem rd_tk2 {T : Nat → Int} {n p s : Nat} (e : rd_go rd_ws T (n - p) p = s) (h : s < n) (ha : rd_al (T s) = false) (hd : rd_dg (T s) = true) : rd_tk T n p = (s, (rd_go rd_dg T (n - s) s, (if rd_go rd_dg T (n - s) s - s ≤ 2 then 2 else 4, rd_nb T s (rd_go rd_dg T (n - s) s)))) := by
  unfold rd_tk
  dsimp only
  rw [e, if_neg (by omega), if_neg (by rw [ha]; decide), if_pos hd]
theorem rd_tk3 {T : Nat → Int} {n p s : Nat} (e : rd_go rd_ws T (n - p) p = s) (h : s < n) (ha : rd_al (T s) = false) (hd : rd_dg (T s) = false) : rd_tk T n p = (s, (s + 1, (if T s = 59 then 3 else 4, -1))) := by
  unfold rd_tk
  dsimp only
  rw [e, if_neg (by omega), if_neg (by rw [ha]; decide), if_neg (by rw [hd]; decide)]
