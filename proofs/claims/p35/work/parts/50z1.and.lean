section
-- READING A TEXT: what a token is, told of the bytes alone
def rd_ws (c : Int) : Bool := decide (c = 10) || decide (c = 32)
def rd_al (c : Int) : Bool := decide (97 ≤ c) && decide (c ≤ 122)
def rd_dg (c : Int) : Bool := decide (48 ≤ c) && decide (c ≤ 57)
theorem rd_wsT {c : Int} : rd_ws c = true ↔ c = 10 ∨ c = 32 := by unfold rd_ws; rw [Bool.or_eq_true, decide_eq_true_iff, decide_eq_true_iff]
theorem rd_alT {c : Int} : rd_al c = true ↔ 97 ≤ c ∧ c ≤ 122 := by unfold rd_al; rw [Bool.and_eq_true, decide_eq_true_iff, decide_eq_true_iff]
theorem rd_dgT {c : Int} : rd_dg c = true ↔ 48 ≤ c ∧ c ≤ 57 := by unfold rd_dg; rw [Bool.and_eq_true, decide_eq_true_iff, decide_eq_true_iff]
theorem rd_wsF {c : Int} : rd_ws c = false ↔ c ≠ 10 ∧ c ≠ 32 := by rw [← Bool.not_eq_true, rd_wsT, not_or]
theorem rd_alF {c : Int} : rd_al c = false ↔ c < 97 ∨ 122 < c := by rw [← Bool.not_eq_true, rd_alT]; omega
theorem rd_dgF {c : Int} : rd_dg c = false ↔ c < 48 ∨ 57 < c := by rw [← Bool.not_eq_true, rd_dgT]; omega
-- on while f holds, d places at most
def rd_go (f : Int → Bool) (T : Nat → Int) : Nat → Nat → Nat
  | 0, p => p
  | d + 1, p => if f (T p) = true then rd_go f T d (p + 1) else p
theorem rd_goS {f : Int → Bool} {T : Nat → Int} {d p : Nat} (h : f (T p) = true) : rd_go f T (d + 1) p = rd_go f T d (p + 1) := by rw [rd_go, if_pos h]
theorem rd_goE {f : Int → Bool} {T : Nat → Int} {d p : Nat} (h : f (T p) = false) : rd_go f T d p = p := by
  cases d with
  | zero => rfl
  | succ d => rw [rd_go, if_neg (by rw [h]; decide)]
theorem rd_goB {f : Int → Bool} {T : Nat → Int} : ∀ (d p : Nat), p ≤ rd_go f T d p ∧ rd_go f T d p ≤ p + d
  | 0, p => ⟨Nat.le_refl _, Nat.le_refl _⟩
  | d + 1, p => by
    rw [rd_go]
    split
    · have := rd_goB (f := f) (T := T) d (p + 1)
      omega
    · omega
-- all places on the way hold f
theorem rd_goA {f : Int → Bool} {T : Nat → Int} : ∀ (d p j : Nat), p ≤ j → j < rd_go f T d p → f (T j) = true
  | 0, p, j, h1, h2 => by rw [rd_go] at h2; omega
  | d + 1, p, j, h1, h2 => by
    rw [rd_go] at h2
    split at h2
    · next h =>
      by_cases e : j = p
      · rw [e]; exact h
      · exact rd_goA d (p + 1) j (by omega) h2
    · omega
-- the end is no such place
theorem rd_goN {f : Int → Bool} {T : Nat → Int} : ∀ (d p : Nat), rd_go f T d p < p + d → f (T (rd_go f T d p)) = false
  | 0, p, h => by rw [rd_go] at h; omega
  | d + 1, p, h => by
    rw [rd_go] at h ⊢
    by_cases e : f (T p) = true
    · rw [if_pos e] at h ⊢
      exact rd_goN d (p + 1) (by omega)
    · rw [if_neg e]
      simpa using e
-- the names of the kinds
-- the word from s to b is this one
def rd_ib (T : Nat → Int) (s b : Nat) (l : List Int) : Bool := decide (b = s + l.length) && (List.range l.length).all (fun i => decide (T (s + i) = l.getD i 0))
def rd_is (T : Nat → Int) (s b : Nat) (l : List Int) : Prop := rd_ib T s b l = true
theorem rd_isT {T : Nat → Int} {s b : Nat} {l : List Int} : rd_is T s b l ↔ b = s + l.length ∧ ∀ i, i < l.length → T (s + i) = l.getD i 0 := by
  unfold rd_is rd_ib
  rw [Bool.and_eq_true, decide_eq_true_iff, List.all_eq_true]
  exact ⟨fun h => ⟨h.1, fun i hi => of_decide_eq_true (h.2 i (List.mem_range.mpr hi))⟩, fun h => ⟨h.1, fun i hi => decide_eq_true (h.2 i (List.mem_range.mp hi))⟩⟩
-- which kind it names (the last one that it tells; they differ)
def rd_kd (T : Nat → Int) (s b : Nat) : Nat → Int
  | 0 => -1
  | k + 1 => if rd_ib T s b (rd_nm k) = true then (k : Int) else rd_kd T s b k
-- a number of one or two digits
def rd_nb (T : Nat → Int) (s b : Nat) : Int := if b = s + 1 then T s - 48 else 10 * (T s - 48) + (T (s + 1) - 48)
-- a token: 0 the end, 1 a word, 2 a number, 3 the mark, 4 none of these
def rt_s (q : Nat × (Nat × (Int × Int))) : Nat := q.1
def rt_b (q : Nat × (Nat × (Int × Int))) : Nat := q.2.1
def rt_t (q : Nat × (Nat × (Int × Int))) : Int := q.2.2.1
def rt_v (q : Nat × (Nat × (Int × Int))) : Int := q.2.2.2
def rd_tk (T : Nat → Int) (n p : Nat) : Nat × (Nat × (Int × Int)) :=
  let s := rd_go rd_ws T (n - p) p
  if n ≤ s then (s, (s, (0, -1)))
  else if rd_al (T s) = true then (let b := rd_go rd_al T (n - s) s; (s, (b, (1, rd_kd T s b 6))))
  else if rd_dg (T s) = true then (let b := rd_go rd_dg T (n - s) s; (s, (b, (if b - s ≤ 2 then 2 else 4, rd_nb T s b))))
  else (s, (s + 1, (if T s = 59 then 3 else 4, -1)))
theorem rd_tk0 {T : Nat → Int} {n p : Nat} (h : n ≤ rd_go rd_ws T (n - p) p) : rd_tk T n p = (rd_go rd_ws T (n - p) p, (rd_go rd_ws T (n - p) p, (0, -1))) := by
  unfold rd_tk
  rw [if_pos h]
theorem rd_tk1 {T : Nat → Int} {n p s : Nat} (e : rd_go rd_ws T (n - p) p = s) (h : s < n) (ha : rd_al (T s) = true) : rd_tk T n p = (s, (rd_go rd_al T (n - s) s, (1, rd_kd T s (rd_go rd_al T (n - s) s) 6))) := by
  unfold rd_tk
  dsimp only
  rw [e, if_neg (by omega), if_pos ha]
theorem rd_tk2 {T : Nat → Int} {n p s : Nat} (e : rd_go rd_ws T (n - p) p = s) (h : s < n) (ha : rd_al (T s) = false) (hd : rd_dg (T s) = true) : rd_tk T n p = (s, (rd_go rd_dg T (n - s) s, (if rd_go rd_dg T (n - s) s - s ≤ 2 then 2 else 4, rd_nb T s (rd_go rd_dg T (n - s) s)))) := by
  unfold rd_tk
  dsimp only
  rw [e, if_neg (by omega), if_neg (by rw [ha]; decide), if_pos hd]
theorem rd_tk3 {T : Nat → Int} {n p s : Nat} (e : rd_go rd_ws T (n - p) p = s) (h : s < n) (ha : rd_al (T s) = false) (hd : rd_dg (T s) = false) : rd_tk T n p = (s, (s + 1, (if T s = 59 then 3 else 4, -1))) := by
  unfold rd_tk
  dsimp only
  rw [e, if_neg (by omega), if_neg (by rw [ha]; decide), if_neg (by rw [hd]; decide)]
end
section
-- WORDS AS NUMBERS
def rd_w (T : Nat → Int) (s : Nat) : Nat → Nat
  | 0 => 0
  | j + 1 => 256 * rd_w T s j + (T (s + j)).toNat
theorem rd_wB {T : Nat → Int} {s : Nat} : ∀ (j : Nat), (∀ i, i < j → 97 ≤ T (s + i) ∧ T (s + i) ≤ 122) → rd_w T s j < 256 ^ j
  | 0, _ => by
    show (0 : Nat) < 1
    decide
  | j + 1, h => by
    have h1 := rd_wB (T := T) (s := s) j (fun i hi => h i (by omega))
    have h2 := h j (by omega)
    rw [rd_w, Nat.pow_succ]
    have h3 : (T (s + j)).toNat < 256 := by omega
    have h4 : 256 * (rd_w T s j + 1) ≤ 256 * 256 ^ j := Nat.mul_le_mul_left 256 h1
    omega
def rd_W (k : Nat) : Nat := match k with
  | 0 => 7234935
  | 1 => 7370100
  | 2 => 1835363428
  | 3 => 1818588019
  | 4 => 465726563698
  | 5 => 6518132
  | _ => 0
theorem rd_wk0 {T : Nat → Int} {s j : Nat} (j8 : j ≤ 8) (hb : ∀ i, i < j → 97 ≤ T (s + i) ∧ T (s + i) ≤ 122) : rd_w T s j = 7234935 ↔ rd_is T s (s + j) (rd_nm 0) := by
  rw [rd_isT]
  constructor
  · intro h
    rcases (show j = 0 ∨ j = 1 ∨ j = 2 ∨ j = 3 ∨ j = 4 ∨ j = 5 ∨ j = 6 ∨ j = 7 ∨ j = 8 by omega) with rfl | rfl | rfl | rfl | rfl | rfl | rfl | rfl | rfl
    · exfalso
      simp only [rd_w] at h
      omega
    · exfalso
      have b0 := hb 0 (by decide)
      simp only [rd_w] at h
      omega
    · exfalso
      have b0 := hb 0 (by decide)
      have b1 := hb 1 (by decide)
      simp only [rd_w] at h
      omega
    · refine ⟨rfl, fun i hi => ?_⟩
      have hi : i < 3 := hi
      have b0 := hb 0 (by decide)
      have b1 := hb 1 (by decide)
      have b2 := hb 2 (by decide)
      simp only [rd_w] at h
      rcases (show i = 0 ∨ i = 1 ∨ i = 2 by omega) with rfl | rfl | rfl
      · show T (s + 0) = 110
        omega
      · show T (s + 1) = 101
        omega
      · show T (s + 2) = 119
        omega
    · exfalso
      have b0 := hb 0 (by decide)
      have b1 := hb 1 (by decide)
      have b2 := hb 2 (by decide)
      have b3 := hb 3 (by decide)
      simp only [rd_w] at h
      omega
    · exfalso
      have b0 := hb 0 (by decide)
      have b1 := hb 1 (by decide)
      have b2 := hb 2 (by decide)
      have b3 := hb 3 (by decide)
      have b4 := hb 4 (by decide)
      simp only [rd_w] at h
      omega
    · exfalso
      have b0 := hb 0 (by decide)
      have b1 := hb 1 (by decide)
      have b2 := hb 2 (by decide)
      have b3 := hb 3 (by decide)
      have b4 := hb 4 (by decide)
      have b5 := hb 5 (by decide)
      simp only [rd_w] at h
      omega
    · exfalso
      have b0 := hb 0 (by decide)
      have b1 := hb 1 (by decide)
      have b2 := hb 2 (by decide)
      have b3 := hb 3 (by decide)
      have b4 := hb 4 (by decide)
      have b5 := hb 5 (by decide)
      have b6 := hb 6 (by decide)
      simp only [rd_w] at h
      omega
    · exfalso
      have b0 := hb 0 (by decide)
      have b1 := hb 1 (by decide)
      have b2 := hb 2 (by decide)
      have b3 := hb 3 (by decide)
      have b4 := hb 4 (by decide)
      have b5 := hb 5 (by decide)
      have b6 := hb 6 (by decide)
      have b7 := hb 7 (by decide)
      simp only [rd_w] at h
      omega
  · intro ⟨e, h⟩
    have e : s + j = s + 3 := e
    have e2 : j = 3 := by omega
    subst e2
    have h0 : T (s + 0) = 110 := h 0 (by decide)
    have h1 : T (s + 1) = 101 := h 1 (by decide)
    have h2 : T (s + 2) = 119 := h 2 (by decide)
    simp only [rd_w]
    rw [h0, h1, h2]
    decide
theorem rd_wk1 {T : Nat → Int} {s j : Nat} (j8 : j ≤ 8) (hb : ∀ i, i < j → 97 ≤ T (s + i) ∧ T (s + i) ≤ 122) : rd_w T s j = 7370100 ↔ rd_is T s (s + j) (rd_nm 1) := by
  rw [rd_isT]
  constructor
  · intro h
    rcases (show j = 0 ∨ j = 1 ∨ j = 2 ∨ j = 3 ∨ j = 4 ∨ j = 5 ∨ j = 6 ∨ j = 7 ∨ j = 8 by omega) with rfl | rfl | rfl | rfl | rfl | rfl | rfl | rfl | rfl
    · exfalso
      simp only [rd_w] at h
      omega
    · exfalso
      have b0 := hb 0 (by decide)
      simp only [rd_w] at h
      omega
    · exfalso
      have b0 := hb 0 (by decide)
      have b1 := hb 1 (by decide)
      simp only [rd_w] at h
      omega
    · refine ⟨rfl, fun i hi => ?_⟩
      have hi : i < 3 := hi
      have b0 := hb 0 (by decide)
      have b1 := hb 1 (by decide)
      have b2 := hb 2 (by decide)
      simp only [rd_w] at h
      rcases (show i = 0 ∨ i = 1 ∨ i = 2 by omega) with rfl | rfl | rfl
      · show T (s + 0) = 112
        omega
      · show T (s + 1) = 117
        omega
      · show T (s + 2) = 116
        omega
    · exfalso
      have b0 := hb 0 (by decide)
      have b1 := hb 1 (by decide)
      have b2 := hb 2 (by decide)
      have b3 := hb 3 (by decide)
      simp only [rd_w] at h
      omega
    · exfalso
      have b0 := hb 0 (by decide)
      have b1 := hb 1 (by decide)
      have b2 := hb 2 (by decide)
      have b3 := hb 3 (by decide)
      have b4 := hb 4 (by decide)
      simp only [rd_w] at h
      omega
    · exfalso
      have b0 := hb 0 (by decide)
      have b1 := hb 1 (by decide)
      have b2 := hb 2 (by decide)
      have b3 := hb 3 (by decide)
      have b4 := hb 4 (by decide)
      have b5 := hb 5 (by decide)
      simp only [rd_w] at h
      omega
    · exfalso
      have b0 := hb 0 (by decide)
      have b1 := hb 1 (by decide)
      have b2 := hb 2 (by decide)
      have b3 := hb 3 (by decide)
      have b4 := hb 4 (by decide)
      have b5 := hb 5 (by decide)
      have b6 := hb 6 (by decide)
      simp only [rd_w] at h
      omega
    · exfalso
      have b0 := hb 0 (by decide)
      have b1 := hb 1 (by decide)
      have b2 := hb 2 (by decide)
      have b3 := hb 3 (by decide)
      have b4 := hb 4 (by decide)
      have b5 := hb 5 (by decide)
      have b6 := hb 6 (by decide)
      have b7 := hb 7 (by decide)
      simp only [rd_w] at h
      omega
  · intro ⟨e, h⟩
    have e : s + j = s + 3 := e
    have e2 : j = 3 := by omega
    subst e2
    have h0 : T (s + 0) = 112 := h 0 (by decide)
    have h1 : T (s + 1) = 117 := h 1 (by decide)
    have h2 : T (s + 2) = 116 := h 2 (by decide)
    simp only [rd_w]
    rw [h0, h1, h2]
    decide
theorem rd_wk2 {T : Nat → Int} {s j : Nat} (j8 : j ≤ 8) (hb : ∀ i, i < j → 97 ≤ T (s + i) ∧ T (s + i) ≤ 122) : rd_w T s j = 1835363428 ↔ rd_is T s (s + j) (rd_nm 2) := by
  rw [rd_isT]
  constructor
  · intro h
    rcases (show j = 0 ∨ j = 1 ∨ j = 2 ∨ j = 3 ∨ j = 4 ∨ j = 5 ∨ j = 6 ∨ j = 7 ∨ j = 8 by omega) with rfl | rfl | rfl | rfl | rfl | rfl | rfl | rfl | rfl
    · exfalso
      simp only [rd_w] at h
      omega
    · exfalso
      have b0 := hb 0 (by decide)
      simp only [rd_w] at h
      omega
    · exfalso
      have b0 := hb 0 (by decide)
      have b1 := hb 1 (by decide)
      simp only [rd_w] at h
      omega
    · exfalso
      have b0 := hb 0 (by decide)
      have b1 := hb 1 (by decide)
      have b2 := hb 2 (by decide)
      simp only [rd_w] at h
      omega
    · refine ⟨rfl, fun i hi => ?_⟩
      have hi : i < 4 := hi
      have b0 := hb 0 (by decide)
      have b1 := hb 1 (by decide)
      have b2 := hb 2 (by decide)
      have b3 := hb 3 (by decide)
      simp only [rd_w] at h
      rcases (show i = 0 ∨ i = 1 ∨ i = 2 ∨ i = 3 by omega) with rfl | rfl | rfl | rfl
      · show T (s + 0) = 109
        omega
      · show T (s + 1) = 101
        omega
      · show T (s + 2) = 108
        omega
      · show T (s + 3) = 100
        omega
    · exfalso
      have b0 := hb 0 (by decide)
      have b1 := hb 1 (by decide)
      have b2 := hb 2 (by decide)
      have b3 := hb 3 (by decide)
      have b4 := hb 4 (by decide)
      simp only [rd_w] at h
      omega
    · exfalso
      have b0 := hb 0 (by decide)
      have b1 := hb 1 (by decide)
      have b2 := hb 2 (by decide)
      have b3 := hb 3 (by decide)
      have b4 := hb 4 (by decide)
      have b5 := hb 5 (by decide)
      simp only [rd_w] at h
      omega
    · exfalso
      have b0 := hb 0 (by decide)
      have b1 := hb 1 (by decide)
      have b2 := hb 2 (by decide)
      have b3 := hb 3 (by decide)
      have b4 := hb 4 (by decide)
      have b5 := hb 5 (by decide)
      have b6 := hb 6 (by decide)
      simp only [rd_w] at h
      omega
    · exfalso
      have b0 := hb 0 (by decide)
      have b1 := hb 1 (by decide)
      have b2 := hb 2 (by decide)
      have b3 := hb 3 (by decide)
      have b4 := hb 4 (by decide)
      have b5 := hb 5 (by decide)
      have b6 := hb 6 (by decide)
      have b7 := hb 7 (by decide)
      simp only [rd_w] at h
      omega
  · intro ⟨e, h⟩
    have e : s + j = s + 4 := e
    have e2 : j = 4 := by omega
    subst e2
    have h0 : T (s + 0) = 109 := h 0 (by decide)
    have h1 : T (s + 1) = 101 := h 1 (by decide)
    have h2 : T (s + 2) = 108 := h 2 (by decide)
    have h3 : T (s + 3) = 100 := h 3 (by decide)
    simp only [rd_w]
    rw [h0, h1, h2, h3]
    decide
theorem rd_wk3 {T : Nat → Int} {s j : Nat} (j8 : j ≤ 8) (hb : ∀ i, i < j → 97 ≤ T (s + i) ∧ T (s + i) ≤ 122) : rd_w T s j = 1818588019 ↔ rd_is T s (s + j) (rd_nm 3) := by
  rw [rd_isT]
  constructor
  · intro h
    rcases (show j = 0 ∨ j = 1 ∨ j = 2 ∨ j = 3 ∨ j = 4 ∨ j = 5 ∨ j = 6 ∨ j = 7 ∨ j = 8 by omega) with rfl | rfl | rfl | rfl | rfl | rfl | rfl | rfl | rfl
    · exfalso
      simp only [rd_w] at h
      omega
    · exfalso
      have b0 := hb 0 (by decide)
      simp only [rd_w] at h
      omega
    · exfalso
      have b0 := hb 0 (by decide)
      have b1 := hb 1 (by decide)
      simp only [rd_w] at h
      omega
    · exfalso
      have b0 := hb 0 (by decide)
      have b1 := hb 1 (by decide)
      have b2 := hb 2 (by decide)
      simp only [rd_w] at h
      omega
    · refine ⟨rfl, fun i hi => ?_⟩
      have hi : i < 4 := hi
      have b0 := hb 0 (by decide)
      have b1 := hb 1 (by decide)
      have b2 := hb 2 (by decide)
      have b3 := hb 3 (by decide)
      simp only [rd_w] at h
      rcases (show i = 0 ∨ i = 1 ∨ i = 2 ∨ i = 3 by omega) with rfl | rfl | rfl | rfl
      · show T (s + 0) = 108
        omega
      · show T (s + 1) = 101
        omega
      · show T (s + 2) = 115
        omega
      · show T (s + 3) = 115
        omega
    · exfalso
      have b0 := hb 0 (by decide)
      have b1 := hb 1 (by decide)
      have b2 := hb 2 (by decide)
      have b3 := hb 3 (by decide)
      have b4 := hb 4 (by decide)
      simp only [rd_w] at h
      omega
    · exfalso
      have b0 := hb 0 (by decide)
      have b1 := hb 1 (by decide)
      have b2 := hb 2 (by decide)
      have b3 := hb 3 (by decide)
      have b4 := hb 4 (by decide)
      have b5 := hb 5 (by decide)
      simp only [rd_w] at h
      omega
    · exfalso
      have b0 := hb 0 (by decide)
      have b1 := hb 1 (by decide)
      have b2 := hb 2 (by decide)
      have b3 := hb 3 (by decide)
      have b4 := hb 4 (by decide)
      have b5 := hb 5 (by decide)
      have b6 := hb 6 (by decide)
      simp only [rd_w] at h
      omega
    · exfalso
      have b0 := hb 0 (by decide)
      have b1 := hb 1 (by decide)
      have b2 := hb 2 (by decide)
      have b3 := hb 3 (by decide)
      have b4 := hb 4 (by decide)
      have b5 := hb 5 (by decide)
      have b6 := hb 6 (by decide)
      have b7 := hb 7 (by decide)
      simp only [rd_w] at h
      omega
  · intro ⟨e, h⟩
    have e : s + j = s + 4 := e
    have e2 : j = 4 := by omega
    subst e2
    have h0 : T (s + 0) = 108 := h 0 (by decide)
    have h1 : T (s + 1) = 101 := h 1 (by decide)
    have h2 : T (s + 2) = 115 := h 2 (by decide)
    have h3 : T (s + 3) = 115 := h 3 (by decide)
    simp only [rd_w]
    rw [h0, h1, h2, h3]
    decide
theorem rd_wk4 {T : Nat → Int} {s j : Nat} (j8 : j ≤ 8) (hb : ∀ i, i < j → 97 ≤ T (s + i) ∧ T (s + i) ≤ 122) : rd_w T s j = 465726563698 ↔ rd_is T s (s + j) (rd_nm 4) := by
  rw [rd_isT]
  constructor
  · intro h
    rcases (show j = 0 ∨ j = 1 ∨ j = 2 ∨ j = 3 ∨ j = 4 ∨ j = 5 ∨ j = 6 ∨ j = 7 ∨ j = 8 by omega) with rfl | rfl | rfl | rfl | rfl | rfl | rfl | rfl | rfl
    · exfalso
      simp only [rd_w] at h
      omega
    · exfalso
      have b0 := hb 0 (by decide)
      simp only [rd_w] at h
      omega
    · exfalso
      have b0 := hb 0 (by decide)
      have b1 := hb 1 (by decide)
      simp only [rd_w] at h
      omega
    · exfalso
      have b0 := hb 0 (by decide)
      have b1 := hb 1 (by decide)
      have b2 := hb 2 (by decide)
      simp only [rd_w] at h
      omega
    · exfalso
      have b0 := hb 0 (by decide)
      have b1 := hb 1 (by decide)
      have b2 := hb 2 (by decide)
      have b3 := hb 3 (by decide)
      simp only [rd_w] at h
      omega
    · refine ⟨rfl, fun i hi => ?_⟩
      have hi : i < 5 := hi
      have b0 := hb 0 (by decide)
      have b1 := hb 1 (by decide)
      have b2 := hb 2 (by decide)
      have b3 := hb 3 (by decide)
      have b4 := hb 4 (by decide)
      simp only [rd_w] at h
      rcases (show i = 0 ∨ i = 1 ∨ i = 2 ∨ i = 3 ∨ i = 4 by omega) with rfl | rfl | rfl | rfl | rfl
      · show T (s + 0) = 108
        omega
      · show T (s + 1) = 111
        omega
      · show T (s + 2) = 119
        omega
      · show T (s + 3) = 101
        omega
      · show T (s + 4) = 114
        omega
    · exfalso
      have b0 := hb 0 (by decide)
      have b1 := hb 1 (by decide)
      have b2 := hb 2 (by decide)
      have b3 := hb 3 (by decide)
      have b4 := hb 4 (by decide)
      have b5 := hb 5 (by decide)
      simp only [rd_w] at h
      omega
    · exfalso
      have b0 := hb 0 (by decide)
      have b1 := hb 1 (by decide)
      have b2 := hb 2 (by decide)
      have b3 := hb 3 (by decide)
      have b4 := hb 4 (by decide)
      have b5 := hb 5 (by decide)
      have b6 := hb 6 (by decide)
      simp only [rd_w] at h
      omega
    · exfalso
      have b0 := hb 0 (by decide)
      have b1 := hb 1 (by decide)
      have b2 := hb 2 (by decide)
      have b3 := hb 3 (by decide)
      have b4 := hb 4 (by decide)
      have b5 := hb 5 (by decide)
      have b6 := hb 6 (by decide)
      have b7 := hb 7 (by decide)
      simp only [rd_w] at h
      omega
  · intro ⟨e, h⟩
    have e : s + j = s + 5 := e
    have e2 : j = 5 := by omega
    subst e2
    have h0 : T (s + 0) = 108 := h 0 (by decide)
    have h1 : T (s + 1) = 111 := h 1 (by decide)
    have h2 : T (s + 2) = 119 := h 2 (by decide)
    have h3 : T (s + 3) = 101 := h 3 (by decide)
    have h4 : T (s + 4) = 114 := h 4 (by decide)
    simp only [rd_w]
    rw [h0, h1, h2, h3, h4]
    decide
theorem rd_wk5 {T : Nat → Int} {s j : Nat} (j8 : j ≤ 8) (hb : ∀ i, i < j → 97 ≤ T (s + i) ∧ T (s + i) ≤ 122) : rd_w T s j = 6518132 ↔ rd_is T s (s + j) (rd_nm 5) := by
  rw [rd_isT]
  constructor
  · intro h
    rcases (show j = 0 ∨ j = 1 ∨ j = 2 ∨ j = 3 ∨ j = 4 ∨ j = 5 ∨ j = 6 ∨ j = 7 ∨ j = 8 by omega) with rfl | rfl | rfl | rfl | rfl | rfl | rfl | rfl | rfl
    · exfalso
      simp only [rd_w] at h
      omega
    · exfalso
      have b0 := hb 0 (by decide)
      simp only [rd_w] at h
      omega
    · exfalso
      have b0 := hb 0 (by decide)
      have b1 := hb 1 (by decide)
      simp only [rd_w] at h
      omega
    · refine ⟨rfl, fun i hi => ?_⟩
      have hi : i < 3 := hi
      have b0 := hb 0 (by decide)
      have b1 := hb 1 (by decide)
      have b2 := hb 2 (by decide)
      simp only [rd_w] at h
      rcases (show i = 0 ∨ i = 1 ∨ i = 2 by omega) with rfl | rfl | rfl
      · show T (s + 0) = 99
        omega
      · show T (s + 1) = 117
        omega
      · show T (s + 2) = 116
        omega
    · exfalso
      have b0 := hb 0 (by decide)
      have b1 := hb 1 (by decide)
      have b2 := hb 2 (by decide)
      have b3 := hb 3 (by decide)
      simp only [rd_w] at h
      omega
    · exfalso
      have b0 := hb 0 (by decide)
      have b1 := hb 1 (by decide)
      have b2 := hb 2 (by decide)
      have b3 := hb 3 (by decide)
      have b4 := hb 4 (by decide)
      simp only [rd_w] at h
      omega
    · exfalso
      have b0 := hb 0 (by decide)
      have b1 := hb 1 (by decide)
      have b2 := hb 2 (by decide)
      have b3 := hb 3 (by decide)
      have b4 := hb 4 (by decide)
      have b5 := hb 5 (by decide)
      simp only [rd_w] at h
      omega
    · exfalso
      have b0 := hb 0 (by decide)
      have b1 := hb 1 (by decide)
      have b2 := hb 2 (by decide)
      have b3 := hb 3 (by decide)
      have b4 := hb 4 (by decide)
      have b5 := hb 5 (by decide)
      have b6 := hb 6 (by decide)
      simp only [rd_w] at h
      omega
    · exfalso
      have b0 := hb 0 (by decide)
      have b1 := hb 1 (by decide)
      have b2 := hb 2 (by decide)
      have b3 := hb 3 (by decide)
      have b4 := hb 4 (by decide)
      have b5 := hb 5 (by decide)
      have b6 := hb 6 (by decide)
      have b7 := hb 7 (by decide)
      simp only [rd_w] at h
      omega
  · intro ⟨e, h⟩
    have e : s + j = s + 3 := e
    have e2 : j = 3 := by omega
    subst e2
    have h0 : T (s + 0) = 99 := h 0 (by decide)
    have h1 : T (s + 1) = 117 := h 1 (by decide)
    have h2 : T (s + 2) = 116 := h 2 (by decide)
    simp only [rd_w]
    rw [h0, h1, h2]
    decide
theorem rd_wk {T : Nat → Int} {s j k : Nat} (hk : k < 6) (j8 : j ≤ 8) (hb : ∀ i, i < j → 97 ≤ T (s + i) ∧ T (s + i) ≤ 122) : rd_w T s j = rd_W k ↔ rd_is T s (s + j) (rd_nm k) := by
  rcases (show k = 0 ∨ k = 1 ∨ k = 2 ∨ k = 3 ∨ k = 4 ∨ k = 5 by omega) with rfl | rfl | rfl | rfl | rfl | rfl
  · exact rd_wk0 j8 hb
  · exact rd_wk1 j8 hb
  · exact rd_wk2 j8 hb
  · exact rd_wk3 j8 hb
  · exact rd_wk4 j8 hb
  · exact rd_wk5 j8 hb
theorem rd_nmL {k : Nat} (hk : k < 6) : 3 ≤ (rd_nm k).length ∧ (rd_nm k).length ≤ 5 := by
  rcases (show k = 0 ∨ k = 1 ∨ k = 2 ∨ k = 3 ∨ k = 4 ∨ k = 5 by omega) with rfl | rfl | rfl | rfl | rfl | rfl <;> decide
theorem rd_WB {k : Nat} : rd_W k < 2 ^ 40 := by
  unfold rd_W
  split <;> decide
theorem rd_W0 {k : Nat} (hk : k < 6) : rd_W k ≠ 0 := by
  rcases (show k = 0 ∨ k = 1 ∨ k = 2 ∨ k = 3 ∨ k = 4 ∨ k = 5 by omega) with rfl | rfl | rfl | rfl | rfl | rfl <;> decide
theorem l_ofN {a b : Nat} (ha : a < 2 ^ 64) (hb : b < 2 ^ 64) : Int64.ofNat a = Int64.ofNat b ↔ a = b := by
  refine ⟨fun e => ?_, fun e => by rw [e]⟩
  have h1 : (Int64.ofNat a).toBitVec.toNat = (Int64.ofNat b).toBitVec.toNat := by rw [e]
  have h2 : (BitVec.ofNat 64 a).toNat = (BitVec.ofNat 64 b).toNat := h1
  rw [BitVec.toNat_ofNat, BitVec.toNat_ofNat, Nat.mod_eq_of_lt ha, Nat.mod_eq_of_lt hb] at h2
  exact h2
-- a letter more
theorem l_e8 : ((Int32.ofInt 8).toInt64 &&& 63) = (8 : Int64) := by decide
theorem l_step {a : Nat} {y : Int} (ha : a < 2 ^ 56) (y0 : 0 ≤ y) (y1 : y < 256) : (Int64.ofNat a <<< ((Int32.ofInt 8).toInt64 &&& 63)) ||| (Int32.ofInt y).toInt64 = Int64.ofNat (256 * a + y.toNat) := by
  rw [l_e8]
  have e2 : (Int32.ofInt y).toInt64.toBitVec.toNat = y.toNat := by
    have h1 : (Int32.ofInt y).toInt64.toInt = y := by
      rw [Int32.toInt_toInt64, Int32.toInt_ofInt]
      exact Int.bmod_eq_of_le (by show -((2 ^ 32 : Int) / 2) ≤ y; omega) (by show y < ((2 ^ 32 : Int) + 1) / 2; omega)
    have h2 : (Int32.ofInt y).toInt64.toInt = (Int32.ofInt y).toInt64.toBitVec.toInt := rfl
    have h4 := BitVec.toInt_eq_toNat_cond (Int32.ofInt y).toInt64.toBitVec
    have h5 := (Int32.ofInt y).toInt64.toBitVec.isLt
    split at h4 <;> omega
  apply Int64.toBitVec_inj.mp
  apply BitVec.eq_of_toNat_eq
  have e3 : ((Int64.ofNat a <<< (8 : Int64)) ||| (Int32.ofInt y).toInt64).toBitVec = (BitVec.ofNat 64 a <<< 8) ||| (Int32.ofInt y).toInt64.toBitVec := rfl
  rw [e3, BitVec.toNat_or, BitVec.toNat_shiftLeft, e2]
  show ((BitVec.ofNat 64 a).toNat <<< 8 % 2 ^ 64) ||| y.toNat = (BitVec.ofNat 64 (256 * a + y.toNat)).toNat
  rw [BitVec.toNat_ofNat, BitVec.toNat_ofNat, Nat.mod_eq_of_lt (show a < 2 ^ 64 by omega), Nat.shiftLeft_eq, Nat.mod_eq_of_lt (show a * 2 ^ 8 < 2 ^ 64 by omega), Nat.mod_eq_of_lt (show 256 * a + y.toNat < 2 ^ 64 by omega), ← Nat.shiftLeft_eq, ← Nat.shiftLeft_add_eq_or_of_lt (show y.toNat < 2 ^ 8 by omega), Nat.shiftLeft_eq]
  omega
theorem t_Wn9 {W : List (Nat × Nat)} {R : Nat} (e : W.all (fun q => !(Nat.beq q.1 R)) = true) (j : Nat) : ¬ t_W W R j := fun z => by
  rcases z with z | z
  all_goals
    have z1 : (!(Nat.beq R R)) = true := List.all_eq_true.mp e _ z
    rw [Nat.beq_refl] at z1
    cases z1
theorem i_255 (x : Int32) : (x &&& 255).toInt = x.toInt % 256 := by
  have h1 : (x &&& 255).toBitVec.toNat = x.toBitVec.toNat % 256 := by
    show (x.toBitVec &&& (255 : Int32).toBitVec).toNat = _
    rw [BitVec.toNat_and]
    exact Nat.and_two_pow_sub_one_eq_mod x.toBitVec.toNat 8
  have e1 : (x &&& 255).toInt = (x &&& 255).toBitVec.toInt := rfl
  have e2 : x.toInt = x.toBitVec.toInt := rfl
  have h4 := BitVec.toInt_eq_toNat_cond (x &&& 255).toBitVec
  have h5 := BitVec.toInt_eq_toNat_cond x.toBitVec
  have h6 := x.toBitVec.isLt
  rw [h1] at h4
  split at h4 <;> split at h5 <;> omega
section
variable {i pc pc' : Nat} {lv : List (Nat × Value)} {st : List Value} {h : MH} {Q : Option Value → MH → Prop}
theorem hM_iand255 {x y : Int32} {zx : Int} (a : m_at i pc = some (.iand, 1)) (hx : x.toInt = zx) (hy : y.toInt = 255) (hp : pc + 1 = pc') (g : ∀ w : Int32, w.toInt = zx % 256 → HJ i pc' lv (.int w :: st) h Q) : HJ i pc lv (.int y :: .int x :: st) h Q := by
  have : y = 255 := Int32.toInt_inj.mp (by rw [hy]; rfl)
  subst this
  exact hI_iand a hp (g _ (by rw [i_255, hx]))
end
end
section
-- A LINE, A TEXT: what comes of it, told of the bytes alone
abbrev RLS : Type := Nat × (Nat × (Int × (Int × (Nat → Int))))
-- the place; the lines begun; the first fault, where; what is told
def ls_p (S : RLS) : Nat := S.1
def ls_g (S : RLS) : Nat := S.2.1
def ls_f (S : RLS) : Int := S.2.2.1
def ls_l (S : RLS) : Int := S.2.2.2.1
def ls_t (S : RLS) : Nat → Int := S.2.2.2.2
def ls_at (p : Nat) (S : RLS) : RLS := (p, S.2)
def ls_note (w : Int) (s : Nat) (S : RLS) : RLS := if ls_f S = 0 then (S.1, (S.2.1, (w, ((s : Int), S.2.2.2.2)))) else S
def ls_bad (s : Nat) (S : RLS) : RLS := (S.1, (S.2.1, (1, ((s : Int), S.2.2.2.2))))
def ls_set (j : Nat) (v : Int) (S : RLS) : RLS := (S.1, (S.2.1, (S.2.2.1, (S.2.2.2.1, m_u S.2.2.2.2 j v))))
def ls_up (S : RLS) : RLS := (S.1, (S.2.1 + 1, S.2.2))
def rd_lim (k : Int) : List Int := if k = 1 then [40, 99] else if k = 2 then [40, 40] else if k = 3 then [40] else if k = 4 then [40, 39, 99] else if k = 5 then [40, 99] else []
def rd_num (l : Int) (i : Nat) (q : Nat × (Nat × (Int × Int))) (S : RLS) : RLS :=
  let S2 := if l < rt_v q then ls_note 2 (rt_s q) (ls_at (rt_b q) S) else ls_at (rt_b q) S
  if ls_g S ≤ 40 then ls_set (4 * (ls_g S - 1) + 2 + i) (rt_v q) S2 else S2
def rd_nums (T : Nat → Int) (n : Nat) : List Int → Nat → RLS → Bool × RLS
  | [], _, S => (true, S)
  | l :: r, i, S => if rt_t (rd_tk T n (ls_p S)) = 2 then rd_nums T n r (i + 1) (rd_num l i (rd_tk T n (ls_p S)) S) else (false, ls_bad (rt_s (rd_tk T n (ls_p S))) (ls_at (rt_b (rd_tk T n (ls_p S))) S))
-- an act begun
def rd_beg (q : Nat × (Nat × (Int × Int))) (S : RLS) : RLS :=
  ls_up (if 40 ≤ ls_g S then ls_note 3 (rt_s q) (ls_at (rt_b q) S) else ls_set (4 * ls_g S + 4) (-1) (ls_set (4 * ls_g S + 3) (-1) (ls_set (4 * ls_g S + 2) (-1) (ls_set (4 * ls_g S + 1) (rt_v q) (ls_at (rt_b q) S)))))
-- the mark behind it
def rd_mark (T : Nat → Int) (n : Nat) (S : RLS) : Nat × RLS := if rt_t (rd_tk T n (ls_p S)) = 3 then (2, ls_at (rt_b (rd_tk T n (ls_p S))) S) else (1, ls_bad (rt_s (rd_tk T n (ls_p S))) (ls_at (rt_b (rd_tk T n (ls_p S))) S))
-- 0 the end, 1 it goes no further, 2 it goes on
def rd_line (T : Nat → Int) (n : Nat) (S : RLS) : Nat × RLS :=
  if rt_t (rd_tk T n (ls_p S)) = 0 then (0, ls_at (rt_b (rd_tk T n (ls_p S))) S)
  else if rt_t (rd_tk T n (ls_p S)) = 1 ∧ 0 ≤ rt_v (rd_tk T n (ls_p S)) then
    (if (rd_nums T n (rd_lim (rt_v (rd_tk T n (ls_p S)))) 0 (rd_beg (rd_tk T n (ls_p S)) S)).1 = true then rd_mark T n (rd_nums T n (rd_lim (rt_v (rd_tk T n (ls_p S)))) 0 (rd_beg (rd_tk T n (ls_p S)) S)).2
     else (1, (rd_nums T n (rd_lim (rt_v (rd_tk T n (ls_p S)))) 0 (rd_beg (rd_tk T n (ls_p S)) S)).2))
  else (1, ls_bad (rt_s (rd_tk T n (ls_p S))) (ls_at (rt_b (rd_tk T n (ls_p S))) S))
def rd_run (T : Nat → Int) (n : Nat) : Nat → RLS → Bool × RLS
  | 0, S => (true, S)
  | d + 1, S => if (rd_line T n S).1 = 0 then (true, (rd_line T n S).2) else if (rd_line T n S).1 = 1 then (false, (rd_line T n S).2) else rd_run T n d (rd_line T n S).2
-- the whole text: at its end a text without acts is a fault of its own
def rd_fin (n : Nat) (S : RLS) : RLS := if ls_g S = 0 then ls_note 4 n S else S
def rd_all (T : Nat → Int) (n : Nat) (t : Nat → Int) : RLS := rd_fin n (rd_run T n 601 (0, (0, (0, (-1, t))))).2
-- what is known of a token
theorem rd_kdB {T : Nat → Int} {s b : Nat} : ∀ (k : Nat), -1 ≤ rd_kd T s b k ∧ rd_kd T s b k < (k : Int)
  | 0 => ⟨Int.le_refl _, by show (-1 : Int) < 0; omega⟩
  | k + 1 => by
    rw [rd_kd]
    split
    · omega
    · have := rd_kdB (T := T) (s := s) (b := b) k
      omega
theorem rd_goP {f : Int → Bool} {T : Nat → Int} {n s : Nat} (sn : s < n) (h : f (T s) = true) : s < rd_go f T (n - s) s := by
  have e : n - s = (n - s - 1) + 1 := by omega
  rw [e, rd_goS h]
  have := (rd_goB (f := f) (T := T) (n - s - 1) (s + 1)).1
  omega
theorem rd_tkB {T : Nat → Int} {n p : Nat} (pn : p ≤ n) : (p ≤ rt_s (rd_tk T n p) ∧ rt_s (rd_tk T n p) ≤ rt_b (rd_tk T n p) ∧ rt_b (rd_tk T n p) ≤ n) ∧ (rt_t (rd_tk T n p) ≠ 0 → rt_s (rd_tk T n p) < rt_b (rd_tk T n p)) ∧ (rt_t (rd_tk T n p) = 0 → rt_s (rd_tk T n p) = n) ∧ (0 ≤ rt_t (rd_tk T n p) ∧ rt_t (rd_tk T n p) ≤ 4) ∧ (rt_t (rd_tk T n p) = 1 → -1 ≤ rt_v (rd_tk T n p) ∧ rt_v (rd_tk T n p) ≤ 5 ∧ rt_v (rd_tk T n p) = rd_kd T (rt_s (rd_tk T n p)) (rt_b (rd_tk T n p)) 6) ∧ (rt_t (rd_tk T n p) = 2 → 0 ≤ rt_v (rd_tk T n p) ∧ rt_v (rd_tk T n p) ≤ 99) := by
  have hb := rd_goB (f := rd_ws) (T := T) (n - p) p
  generalize hs : rd_go rd_ws T (n - p) p = s at hb
  by_cases sn : n ≤ s
  · have e : rd_tk T n p = (s, (s, (0, -1))) := by
      rw [← hs]
      exact rd_tk0 (by omega)
    rw [e]
    refine ⟨⟨hb.1, Nat.le_refl _, ?_⟩, fun z => absurd rfl z, fun _ => ?_, ⟨by show (0 : Int) ≤ 0; decide, by show (0 : Int) ≤ 4; decide⟩, fun z => absurd (show (0 : Int) = 1 from z) (by decide), fun z => absurd (show (0 : Int) = 2 from z) (by decide)⟩
    · show s ≤ n
      omega
    · show s = n
      omega
  · by_cases ha : rd_al (T s) = true
    · rw [rd_tk1 hs (by omega) ha]
      have h1 := rd_goB (f := rd_al) (T := T) (n - s) s
      have h2 := rd_kdB (T := T) (s := s) (b := rd_go rd_al T (n - s) s) 6
      have h3 := rd_goP (n := n) (by omega) ha
      refine ⟨⟨hb.1, h1.1, ?_⟩, fun _ => h3, fun z => absurd (show (1 : Int) = 0 from z) (by decide), ⟨by show (0 : Int) ≤ 1; decide, by show (1 : Int) ≤ 4; decide⟩, fun _ => ⟨h2.1, ?_, rfl⟩, fun z => absurd (show (1 : Int) = 2 from z) (by decide)⟩
      · show rd_go rd_al T (n - s) s ≤ n
        omega
      · show rd_kd T s _ 6 ≤ 5
        omega
    · have ha : rd_al (T s) = false := by simpa using ha
      by_cases hd : rd_dg (T s) = true
      · rw [rd_tk2 hs (by omega) ha hd]
        have h1 := rd_goB (f := rd_dg) (T := T) (n - s) s
        have h3 := rd_goP (n := n) (by omega) hd
        have h4 := rd_dgT.mp hd
        have ht : ∀ c : Int, c = (if rd_go rd_dg T (n - s) s - s ≤ 2 then 2 else 4) → 0 ≤ c ∧ c ≤ 4 ∧ c ≠ 0 ∧ c ≠ 1 := fun c e => by
          split at e <;> omega
        obtain ⟨t0, t4, tn0, tn1⟩ := ht _ rfl
        refine ⟨⟨hb.1, h1.1, ?_⟩, fun _ => h3, fun z => absurd z tn0, ⟨t0, t4⟩, fun z => absurd z tn1, fun z => ?_⟩
        · show rd_go rd_dg T (n - s) s ≤ n
          omega
        · have z : (if rd_go rd_dg T (n - s) s - s ≤ 2 then (2 : Int) else 4) = 2 := z
          show 0 ≤ rd_nb T s _ ∧ rd_nb T s _ ≤ 99
          unfold rd_nb
          by_cases e1 : rd_go rd_dg T (n - s) s = s + 1
          · rw [if_pos e1]
            omega
          · rw [if_neg e1]
            have h2 : rd_go rd_dg T (n - s) s - s ≤ 2 := by
              split at z
              · assumption
              · omega
            have h5 := rd_dgT.mp (rd_goA (f := rd_dg) (T := T) (n - s) s (s + 1) (by omega) (by omega))
            omega
      · have hd : rd_dg (T s) = false := by simpa using hd
        rw [rd_tk3 hs (by omega) ha hd]
        have ht : ∀ c : Int, c = (if T s = 59 then 3 else 4) → 0 ≤ c ∧ c ≤ 4 ∧ c ≠ 0 ∧ c ≠ 1 ∧ c ≠ 2 := fun c e => by
          split at e <;> omega
        obtain ⟨t0, t4, tn0, tn1, tn2⟩ := ht _ rfl
        refine ⟨⟨hb.1, ?_, ?_⟩, fun _ => ?_, fun z => absurd z tn0, ⟨t0, t4⟩, fun z => absurd z tn1, fun z => absurd z tn2⟩
        · show s ≤ s + 1
          omega
        · show s + 1 ≤ n
          omega
        · show s < s + 1
          omega
-- a state read by its parts
theorem ls_noteE {w : Int} {s : Nat} {S : RLS} : ls_p (ls_note w s S) = ls_p S ∧ ls_g (ls_note w s S) = ls_g S ∧ ls_t (ls_note w s S) = ls_t S ∧ ls_f (ls_note w s S) = (if ls_f S = 0 then w else ls_f S) ∧ ls_l (ls_note w s S) = (if ls_f S = 0 then (s : Int) else ls_l S) := by
  unfold ls_note
  split
  · exact ⟨rfl, rfl, rfl, rfl, rfl⟩
  · exact ⟨rfl, rfl, rfl, rfl, rfl⟩
theorem rd_numE {l : Int} {i : Nat} {q : Nat × (Nat × (Int × Int))} {S : RLS} : ls_p (rd_num l i q S) = rt_b q ∧ ls_g (rd_num l i q S) = ls_g S ∧ ls_t (rd_num l i q S) = (if ls_g S ≤ 40 then m_u (ls_t S) (4 * (ls_g S - 1) + 2 + i) (rt_v q) else ls_t S) ∧ ls_f (rd_num l i q S) = (if l < rt_v q ∧ ls_f S = 0 then 2 else ls_f S) ∧ ls_l (rd_num l i q S) = (if l < rt_v q ∧ ls_f S = 0 then (rt_s q : Int) else ls_l S) := by
  have k : ∀ S2 : RLS, ls_p S2 = rt_b q → ls_g S2 = ls_g S → ls_t S2 = ls_t S → ls_f S2 = (if l < rt_v q ∧ ls_f S = 0 then 2 else ls_f S) → ls_l S2 = (if l < rt_v q ∧ ls_f S = 0 then (rt_s q : Int) else ls_l S) → ls_p (if ls_g S ≤ 40 then ls_set (4 * (ls_g S - 1) + 2 + i) (rt_v q) S2 else S2) = rt_b q ∧ ls_g (if ls_g S ≤ 40 then ls_set (4 * (ls_g S - 1) + 2 + i) (rt_v q) S2 else S2) = ls_g S ∧ ls_t (if ls_g S ≤ 40 then ls_set (4 * (ls_g S - 1) + 2 + i) (rt_v q) S2 else S2) = (if ls_g S ≤ 40 then m_u (ls_t S) (4 * (ls_g S - 1) + 2 + i) (rt_v q) else ls_t S) ∧ ls_f (if ls_g S ≤ 40 then ls_set (4 * (ls_g S - 1) + 2 + i) (rt_v q) S2 else S2) = (if l < rt_v q ∧ ls_f S = 0 then 2 else ls_f S) ∧ ls_l (if ls_g S ≤ 40 then ls_set (4 * (ls_g S - 1) + 2 + i) (rt_v q) S2 else S2) = (if l < rt_v q ∧ ls_f S = 0 then (rt_s q : Int) else ls_l S) := fun S2 e1 e2 e3 e4 e5 => by
    by_cases h4 : ls_g S ≤ 40
    · rw [if_pos h4, if_pos h4]
      exact ⟨e1, e2, by rw [← e3]; rfl, e4, e5⟩
    · rw [if_neg h4, if_neg h4]
      exact ⟨e1, e2, e3, e4, e5⟩
  have p : ls_p (if l < rt_v q then ls_note 2 (rt_s q) (ls_at (rt_b q) S) else ls_at (rt_b q) S) = rt_b q ∧ ls_g (if l < rt_v q then ls_note 2 (rt_s q) (ls_at (rt_b q) S) else ls_at (rt_b q) S) = ls_g S ∧ ls_t (if l < rt_v q then ls_note 2 (rt_s q) (ls_at (rt_b q) S) else ls_at (rt_b q) S) = ls_t S ∧ ls_f (if l < rt_v q then ls_note 2 (rt_s q) (ls_at (rt_b q) S) else ls_at (rt_b q) S) = (if l < rt_v q ∧ ls_f S = 0 then 2 else ls_f S) ∧ ls_l (if l < rt_v q then ls_note 2 (rt_s q) (ls_at (rt_b q) S) else ls_at (rt_b q) S) = (if l < rt_v q ∧ ls_f S = 0 then (rt_s q : Int) else ls_l S) := by
    by_cases h1 : l < rt_v q
    · obtain ⟨n1, n2, n3, n4, n5⟩ := ls_noteE (w := 2) (s := rt_s q) (S := ls_at (rt_b q) S)
      rw [if_pos h1]
      refine ⟨n1, n2, n3, ?_, ?_⟩
      · rw [n4]
        by_cases h2 : ls_f S = 0
        · rw [if_pos (show ls_f (ls_at (rt_b q) S) = 0 from h2), if_pos (show l < rt_v q ∧ ls_f S = 0 from ⟨h1, h2⟩)]
        · rw [if_neg (show ¬ ls_f (ls_at (rt_b q) S) = 0 from h2), if_neg (show ¬ (l < rt_v q ∧ ls_f S = 0) from fun z => h2 z.2)]
          rfl
      · rw [n5]
        by_cases h2 : ls_f S = 0
        · rw [if_pos (show ls_f (ls_at (rt_b q) S) = 0 from h2), if_pos (show l < rt_v q ∧ ls_f S = 0 from ⟨h1, h2⟩)]
        · rw [if_neg (show ¬ ls_f (ls_at (rt_b q) S) = 0 from h2), if_neg (show ¬ (l < rt_v q ∧ ls_f S = 0) from fun z => h2 z.2)]
          rfl
    · rw [if_neg h1, if_neg (show ¬ (l < rt_v q ∧ ls_f S = 0) from fun z => h1 z.1), if_neg (show ¬ (l < rt_v q ∧ ls_f S = 0) from fun z => h1 z.1)]
      exact ⟨rfl, rfl, rfl, rfl, rfl⟩
  exact k _ p.1 p.2.1 p.2.2.1 p.2.2.2.1 p.2.2.2.2
-- what an act begun tells
def rd_bt (g : Nat) (v : Int) (t : Nat → Int) : Nat → Int := m_u (m_u (m_u (m_u t (4 * g + 1) v) (4 * g + 2) (-1)) (4 * g + 3) (-1)) (4 * g + 4) (-1)
theorem rd_begE {q : Nat × (Nat × (Int × Int))} {S : RLS} : ls_p (rd_beg q S) = rt_b q ∧ ls_g (rd_beg q S) = ls_g S + 1 ∧ ls_t (rd_beg q S) = (if 40 ≤ ls_g S then ls_t S else rd_bt (ls_g S) (rt_v q) (ls_t S)) ∧ ls_f (rd_beg q S) = (if 40 ≤ ls_g S ∧ ls_f S = 0 then 3 else ls_f S) ∧ ls_l (rd_beg q S) = (if 40 ≤ ls_g S ∧ ls_f S = 0 then (rt_s q : Int) else ls_l S) := by
  unfold rd_beg
  by_cases h1 : 40 ≤ ls_g S
  · obtain ⟨n1, n2, n3, n4, n5⟩ := ls_noteE (w := 3) (s := rt_s q) (S := ls_at (rt_b q) S)
    rw [if_pos h1, if_pos h1]
    refine ⟨n1, congrArg (· + 1) n2, n3, ?_, ?_⟩
    · refine n4.trans ?_
      by_cases h2 : ls_f S = 0
      · rw [if_pos (show ls_f (ls_at (rt_b q) S) = 0 from h2), if_pos (show 40 ≤ ls_g S ∧ ls_f S = 0 from ⟨h1, h2⟩)]
      · rw [if_neg (show ¬ ls_f (ls_at (rt_b q) S) = 0 from h2), if_neg (show ¬ (40 ≤ ls_g S ∧ ls_f S = 0) from fun z => h2 z.2)]
        rfl
    · refine n5.trans ?_
      by_cases h2 : ls_f S = 0
      · rw [if_pos (show ls_f (ls_at (rt_b q) S) = 0 from h2), if_pos (show 40 ≤ ls_g S ∧ ls_f S = 0 from ⟨h1, h2⟩)]
      · rw [if_neg (show ¬ ls_f (ls_at (rt_b q) S) = 0 from h2), if_neg (show ¬ (40 ≤ ls_g S ∧ ls_f S = 0) from fun z => h2 z.2)]
        rfl
  · rw [if_neg h1, if_neg h1, if_neg (show ¬ (40 ≤ ls_g S ∧ ls_f S = 0) from fun z => h1 z.1), if_neg (show ¬ (40 ≤ ls_g S ∧ ls_f S = 0) from fun z => h1 z.1)]
    exact ⟨rfl, rfl, rfl, rfl, rfl⟩
end
section
-- THE CLASS'S READER: ITS TOKENS
theorem ok_106 : rg_okb 106 = true := by decide +kernel
section
variable {i pc pc' : Nat} {lv : List (Nat × Value)} {st : List Value} {h : MH} {Q : Option Value → MH → Prop}
theorem hM_mulw {x y : Int32} (a : m_at i pc = some (.imul, 1)) (hp : pc + 1 = pc') (g : ∀ (w : Int32) (z : Int), w.toInt = z → -2147483648 ≤ z → z ≤ 2147483647 → HJ i pc' lv (.int w :: st) h Q) : HJ i pc lv (.int y :: .int x :: st) h Q := hI_mul a hp (g _ _ rfl (g_iT _).1 (g_iT _).2)
end
section
variable {lv : List (Nat × Value)} {Q : Option Value → MH → Prop} {W : List (Nat × Nat)} {ρ : Nat → Nat} {m : Nat} {A : Nat → Nat} {h0 h : MH} {F : Nat → Int} {V : Nat → Nat → Int} {G : Nat → Nat → Int64}
theorem s_il {c : Int}  {lx0 : Int32} (e0 : m_lk lv 0 = some (.int lx0)) (lq0 : lx0.toInt = c) 
    (g0 : ∀ x2 : Int32, x2.toInt = 0 → c < 97 → Q (some (.int x2)) h)
    (g1 : ∀ x4 : Int32, x4.toInt = 0 → c ≥ 97 → c > 122 → Q (some (.int x4)) h)
    (g2 : ∀ x5 : Int32, x5.toInt = 1 → c ≥ 97 → c ≤ 122 → Q (some (.int x5)) h)
    : HJ 17 0 lv [] h Q := by
  refine hI_il (k := 0) rfl e0 rfl ?_ -- 0
  refine hM_bp (n := 97) rfl (by decide) rfl (fun x1 q1 => ?_) -- 1
  refine hM_clt (off := 13) (t := 16) rfl lq0 q1 (by decide) rfl (fun c3 => ?_) (fun c3 => ?_) -- 3
  · refine hM_ic (n := 0) rfl (by decide) rfl (fun x2 q2 => ?_) -- 16
    refine hM_rb rfl rfl q2 (by omega) (by omega) ?_ -- 17
    exact g0 x2 q2 c3
  · refine hI_il (k := 0) rfl e0 rfl ?_ -- 6
    refine hM_bp (n := 122) rfl (by decide) rfl (fun x3 q3 => ?_) -- 7
    refine hM_cgt (off := 7) (t := 16) rfl lq0 q3 (by decide) rfl (fun c9 => ?_) (fun c9 => ?_) -- 9
    · refine hM_ic (n := 0) rfl (by decide) rfl (fun x4 q4 => ?_) -- 16
      refine hM_rb rfl rfl q4 (by omega) (by omega) ?_ -- 17
      exact g1 x4 q4 c3 c9
    · refine hM_ic (n := 1) rfl (by decide) rfl (fun x5 q5 => ?_) -- 12
      refine hI_go (pc' := 17) (off := 4) rfl (by decide) ?_ -- 13
      refine hM_rb rfl rfl q5 (by omega) (by omega) ?_ -- 17
      exact g2 x5 q5 c3 c9
theorem s_id {c : Int}  {lx0 : Int32} (e0 : m_lk lv 0 = some (.int lx0)) (lq0 : lx0.toInt = c) 
    (g0 : ∀ x2 : Int32, x2.toInt = 0 → c < 48 → Q (some (.int x2)) h)
    (g1 : ∀ x4 : Int32, x4.toInt = 0 → c ≥ 48 → c > 57 → Q (some (.int x4)) h)
    (g2 : ∀ x5 : Int32, x5.toInt = 1 → c ≥ 48 → c ≤ 57 → Q (some (.int x5)) h)
    : HJ 32 0 lv [] h Q := by
  refine hI_il (k := 0) rfl e0 rfl ?_ -- 0
  refine hM_bp (n := 48) rfl (by decide) rfl (fun x1 q1 => ?_) -- 1
  refine hM_clt (off := 13) (t := 16) rfl lq0 q1 (by decide) rfl (fun c3 => ?_) (fun c3 => ?_) -- 3
  · refine hM_ic (n := 0) rfl (by decide) rfl (fun x2 q2 => ?_) -- 16
    refine hM_rb rfl rfl q2 (by omega) (by omega) ?_ -- 17
    exact g0 x2 q2 c3
  · refine hI_il (k := 0) rfl e0 rfl ?_ -- 6
    refine hM_bp (n := 57) rfl (by decide) rfl (fun x3 q3 => ?_) -- 7
    refine hM_cgt (off := 7) (t := 16) rfl lq0 q3 (by decide) rfl (fun c9 => ?_) (fun c9 => ?_) -- 9
    · refine hM_ic (n := 0) rfl (by decide) rfl (fun x4 q4 => ?_) -- 16
      refine hM_rb rfl rfl q4 (by omega) (by omega) ?_ -- 17
      exact g1 x4 q4 c3 c9
    · refine hM_ic (n := 1) rfl (by decide) rfl (fun x5 q5 => ?_) -- 12
      refine hI_go (pc' := 17) (off := 4) rfl (by decide) ?_ -- 13
      refine hM_rb rfl rfl q5 (by omega) (by omega) ?_ -- 17
      exact g2 x5 q5 c3 c9
theorem c_isl {c : Int} {xc : Int32} (hc : xc.toInt = c) (g : ∀ z : Int32, (z.toInt = 1 ∧ rd_al c = true) ∨ (z.toInt = 0 ∧ rd_al c = false) → Q (some (.int z)) h) : HJ 17 0 (lv_args 0 [.int xc]) [] h Q :=
  s_il rfl hc (fun x q c1 => g x (Or.inr ⟨q, rd_alF.mpr (Or.inl c1)⟩)) (fun x q _ c2 => g x (Or.inr ⟨q, rd_alF.mpr (Or.inr c2)⟩)) (fun x q c1 c2 => g x (Or.inl ⟨q, rd_alT.mpr ⟨c1, c2⟩⟩))
theorem c_isd {c : Int} {xc : Int32} (hc : xc.toInt = c) (g : ∀ z : Int32, (z.toInt = 1 ∧ rd_dg c = true) ∨ (z.toInt = 0 ∧ rd_dg c = false) → Q (some (.int z)) h) : HJ 32 0 (lv_args 0 [.int xc]) [] h Q :=
  s_id rfl hc (fun x q c1 => g x (Or.inr ⟨q, rd_dgF.mpr (Or.inl c1)⟩)) (fun x q _ c2 => g x (Or.inr ⟨q, rd_dgF.mpr (Or.inr c2)⟩)) (fun x q c1 c2 => g x (Or.inl ⟨q, rd_dgT.mpr ⟨c1, c2⟩⟩))
theorem s_nt0 (M : MX 106 W ρ m A h0 h F V G) (e0 : m_lk lv 0 = some (.ref m)) (hw : d_sub [(106, 2)] W = true)
    (g0 : ∀ h2 : MH, ∀ F2 : Nat → Int, F2 = m_u F 2 (F 3) → MX 106 W ρ m A h0 h2 F2 V G → 0 ≤ F 3 → F 3 ≤ 600 → HJ 16 8 lv [] h2 Q)
    : HJ 16 0 lv [] h Q := by
  refine hI_al (k := 0) rfl e0 rfl ?_ -- 0
  refine hI_al (k := 0) rfl e0 rfl ?_ -- 1
  refine hM_gi M (by decide) rfl rfl rfl (k := 3) (c := 4) (lo := 0) (hi := 600) rfl rfl rfl rfl rfl (fun x1 q1 a1 b1 => ?_) -- 2
  refine hM_pi M (by decide) ok_106 rfl rfl (k := 2) (c := 4) (lo := 0) (hi := 600) rfl rfl ⟨by decide, by decide +kernel, rfl⟩ rfl (d_subm hw (by decide +kernel)) q1 (by omega) (by omega) rfl (fun h2 F2 f2 M2 => ?_) -- 5
  exact g0 h2 F2 f2 M2 a1 b1
theorem s_nt8 (M : MX 106 W ρ m A h0 h F V G) (e0 : m_lk lv 0 = some (.ref m)) (hw : d_sub [(106, 2)] W = true)
    (g0 : 0 ≤ F 2 → F 2 ≤ 600 → 0 ≤ F 1 → F 1 ≤ 600 → F 2 ≥ F 1 → HJ 16 60 lv [] h Q)
    (g1 : ∀ h9 : MH, ∀ F9 : Nat → Int, F9 = m_u F 2 ((F 2) + 1) → MX 106 W ρ m A h0 h9 F9 V G → 0 ≤ F 2 → F 2 ≤ 600 → 0 ≤ F 1 → F 1 ≤ 600 → F 2 < F 1 → (-128) ≤ V 0 (F 2).toNat → V 0 (F 2).toNat ≤ 127 → V 0 (F 2).toNat = 10 → HJ 16 8 lv [] h9 Q)
    (g2 : 0 ≤ F 2 → F 2 ≤ 600 → 0 ≤ F 1 → F 1 ≤ 600 → F 2 < F 1 → (-128) ≤ V 0 (F 2).toNat → V 0 (F 2).toNat ≤ 127 → V 0 (F 2).toNat ≠ 10 → V 0 (F 2).toNat ≠ 32 → HJ 16 60 lv [] h Q)
    (g3 : ∀ h16 : MH, ∀ F16 : Nat → Int, F16 = m_u F 2 ((F 2) + 1) → MX 106 W ρ m A h0 h16 F16 V G → 0 ≤ F 2 → F 2 ≤ 600 → 0 ≤ F 1 → F 1 ≤ 600 → F 2 < F 1 → (-128) ≤ V 0 (F 2).toNat → V 0 (F 2).toNat ≤ 127 → V 0 (F 2).toNat ≠ 10 → V 0 (F 2).toNat = 32 → HJ 16 8 lv [] h16 Q)
    : HJ 16 8 lv [] h Q := by
  refine hI_al (k := 0) rfl e0 rfl ?_ -- 8
  refine hM_gi M (by decide) rfl rfl rfl (k := 2) (c := 4) (lo := 0) (hi := 600) rfl rfl rfl rfl rfl (fun x1 q1 a1 b1 => ?_) -- 9
  refine hI_al (k := 0) rfl e0 rfl ?_ -- 12
  refine hM_gi M (by decide) rfl rfl rfl (k := 1) (c := 4) (lo := 0) (hi := 600) rfl rfl rfl rfl rfl (fun x2 q2 a2 b2 => ?_) -- 13
  refine hM_cge (off := 44) (t := 60) rfl q1 q2 (by decide) rfl (fun c16 => ?_) (fun c16 => ?_) -- 16
  · exact g0 a1 b1 a2 b2 c16
  · refine hI_al (k := 0) rfl e0 rfl ?_ -- 19
    refine hM_ga M (by decide) rfl rfl (k := 0) (c := 4) rfl rfl rfl (by decide +kernel) rfl ?_ -- 20
    refine hI_al (k := 0) rfl e0 rfl ?_ -- 23
    refine hM_gi M (by decide) rfl rfl rfl (k := 2) (c := 4) (lo := 0) (hi := 600) rfl rfl rfl rfl rfl (fun x3 q3 a3 b3 => ?_) -- 24
    refine hM_ba M (by decide) (K := 0) (R2 := 13) (L := 600) (H := 600) (lo := (-128)) (hi := 127) rfl (by decide) rfl rfl (Or.inl rfl) (fun _ => rfl) rfl q3 (by omega) (by omega) rfl (fun x4 q4 a4 b4 => ?_) -- 27
    refine hM_bp (n := 10) rfl (by decide) rfl (fun x5 q5 => ?_) -- 28
    refine hM_ceq (off := 17) (t := 47) rfl q4 q5 (by decide) rfl (fun c30 => ?_) (fun c30 => ?_) -- 30
    · refine hI_al (k := 0) rfl e0 rfl ?_ -- 47
      refine hI_dup rfl rfl rfl ?_ -- 48
      refine hM_gi M (by decide) rfl rfl rfl (k := 2) (c := 4) (lo := 0) (hi := 600) rfl rfl rfl rfl rfl (fun x6 q6 a6 b6 => ?_) -- 49
      refine hM_ic (n := 1) rfl (by decide) rfl (fun x7 q7 => ?_) -- 52
      refine hM_add rfl q6 q7 (by omega) (by omega) rfl (fun x8 q8 => ?_) -- 53
      refine hM_pi M (by decide) ok_106 rfl rfl (k := 2) (c := 4) (lo := 0) (hi := 600) rfl rfl ⟨by decide, by decide +kernel, rfl⟩ rfl (d_subm hw (by decide +kernel)) q8 (by omega) (by omega) rfl (fun h9 F9 f9 M9 => ?_) -- 54
      refine hI_go (pc' := 8) (off := (-49)) rfl (by decide) ?_ -- 57
      exact g1 h9 F9 f9 M9 a1 b1 a2 b2 c16 a4 b4 c30
    · refine hI_al (k := 0) rfl e0 rfl ?_ -- 33
      refine hM_ga M (by decide) rfl rfl (k := 0) (c := 4) rfl rfl rfl (by decide +kernel) rfl ?_ -- 34
      refine hI_al (k := 0) rfl e0 rfl ?_ -- 37
      refine hM_gi M (by decide) rfl rfl rfl (k := 2) (c := 4) (lo := 0) (hi := 600) rfl rfl rfl rfl rfl (fun x10 q10 a10 b10 => ?_) -- 38
      refine hM_ba M (by decide) (K := 0) (R2 := 13) (L := 600) (H := 600) (lo := (-128)) (hi := 127) rfl (by decide) rfl rfl (Or.inl rfl) (fun _ => rfl) rfl q10 (by omega) (by omega) rfl (fun x11 q11 a11 b11 => ?_) -- 41
      refine hM_bp (n := 32) rfl (by decide) rfl (fun x12 q12 => ?_) -- 42
      refine hM_cne (off := 16) (t := 60) rfl q11 q12 (by decide) rfl (fun c44 => ?_) (fun c44 => ?_) -- 44
      · exact g2 a1 b1 a2 b2 c16 a4 b4 c30 c44
      · refine hI_al (k := 0) rfl e0 rfl ?_ -- 47
        refine hI_dup rfl rfl rfl ?_ -- 48
        refine hM_gi M (by decide) rfl rfl rfl (k := 2) (c := 4) (lo := 0) (hi := 600) rfl rfl rfl rfl rfl (fun x13 q13 a13 b13 => ?_) -- 49
        refine hM_ic (n := 1) rfl (by decide) rfl (fun x14 q14 => ?_) -- 52
        refine hM_add rfl q13 q14 (by omega) (by omega) rfl (fun x15 q15 => ?_) -- 53
        refine hM_pi M (by decide) ok_106 rfl rfl (k := 2) (c := 4) (lo := 0) (hi := 600) rfl rfl ⟨by decide, by decide +kernel, rfl⟩ rfl (d_subm hw (by decide +kernel)) q15 (by omega) (by omega) rfl (fun h16 F16 f16 M16 => ?_) -- 54
        refine hI_go (pc' := 8) (off := (-49)) rfl (by decide) ?_ -- 57
        exact g3 h16 F16 f16 M16 a1 b1 a2 b2 c16 a4 b4 c30 c44
theorem s_nt60 (M : MX 106 W ρ m A h0 h F V G) (e0 : m_lk lv 0 = some (.ref m)) (hw : d_sub [(106, 3), (106, 5), (106, 4)] W = true)
    (g0 : ∀ h2 : MH, ∀ F2 : Nat → Int, F2 = m_u F 3 (F 2) → ∀ h4 : MH, ∀ F4 : Nat → Int, F4 = m_u F2 5 ((-1)) → ∀ x8 : Int32, x8.toInt = V 0 (F 2).toNat → MX 106 W ρ m A h0 h4 F4 V G → 0 ≤ F 2 → F 2 ≤ 600 → 0 ≤ F 1 → F 1 ≤ 600 → F 2 < F 1 → (-128) ≤ V 0 (F 2).toNat → V 0 (F 2).toNat ≤ 127 → HJ 17 0 (lv_args 0 [.int x8]) [] h4 (fun v h' => HJ 16 104 lv (v.toList ++ []) h' Q))
    (g1 : ∀ h2 : MH, ∀ F2 : Nat → Int, F2 = m_u F 3 (F 2) → ∀ h4 : MH, ∀ F4 : Nat → Int, F4 = m_u F2 5 ((-1)) → ∀ h10 : MH, ∀ F10 : Nat → Int, F10 = m_u F4 4 (0) → MX 106 W ρ m A h0 h10 F10 V G → 0 ≤ F 2 → F 2 ≤ 600 → 0 ≤ F 1 → F 1 ≤ 600 → F 2 ≥ F 1 → Q none h10)
    : HJ 16 60 lv [] h Q := by
  refine hI_al (k := 0) rfl e0 rfl ?_ -- 60
  refine hI_al (k := 0) rfl e0 rfl ?_ -- 61
  refine hM_gi M (by decide) rfl rfl rfl (k := 2) (c := 4) (lo := 0) (hi := 600) rfl rfl rfl rfl rfl (fun x1 q1 a1 b1 => ?_) -- 62
  refine hM_pi M (by decide) ok_106 rfl rfl (k := 3) (c := 4) (lo := 0) (hi := 600) rfl rfl ⟨by decide, by decide +kernel, rfl⟩ rfl (d_subm hw (by decide +kernel)) q1 (by omega) (by omega) rfl (fun h2 F2 f2 M2 => ?_) -- 65
  refine hI_al (k := 0) rfl e0 rfl ?_ -- 68
  refine hM_ic (n := (-1)) rfl (by decide) rfl (fun x3 q3 => ?_) -- 69
  refine hM_pi M2 (by decide) ok_106 rfl rfl (k := 5) (c := 4) (lo := (-2147483648)) (hi := 2147483647) rfl rfl ⟨by decide, by decide +kernel, rfl⟩ rfl (d_subm hw (by decide +kernel)) q3 (by omega) (by omega) rfl (fun h4 F4 f4 M4 => ?_) -- 70
  refine hI_al (k := 0) rfl e0 rfl ?_ -- 73
  refine hM_gi M4 (by decide) rfl rfl rfl (k := 2) (c := 4) (lo := 0) (hi := 600) rfl rfl rfl rfl rfl (fun x5 q5 a5 b5 => ?_) -- 74
  have q5 : x5.toInt = F 2 := by rw [q5, f4, f2]; rfl
  have a5 := a5
  rw [f4, f2] at a5 b5
  change 0 ≤ F 2 at a5
  change F 2 ≤ 600 at b5 -- 74
  refine hI_al (k := 0) rfl e0 rfl ?_ -- 77
  refine hM_gi M4 (by decide) rfl rfl rfl (k := 1) (c := 4) (lo := 0) (hi := 600) rfl rfl rfl rfl rfl (fun x6 q6 a6 b6 => ?_) -- 78
  have q6 : x6.toInt = F 1 := by rw [q6, f4, f2]; rfl
  have a6 := a6
  rw [f4, f2] at a6 b6
  change 0 ≤ F 1 at a6
  change F 1 ≤ 600 at b6 -- 78
  refine hM_clt (off := 11) (t := 92) rfl q5 q6 (by decide) rfl (fun c81 => ?_) (fun c81 => ?_) -- 81
  · refine hI_al (k := 0) rfl e0 rfl ?_ -- 92
    refine hM_ga M4 (by decide) rfl rfl (k := 0) (c := 4) rfl rfl rfl (by decide +kernel) rfl ?_ -- 93
    refine hI_al (k := 0) rfl e0 rfl ?_ -- 96
    refine hM_gi M4 (by decide) rfl rfl rfl (k := 2) (c := 4) (lo := 0) (hi := 600) rfl rfl rfl rfl rfl (fun x7 q7 a7 b7 => ?_) -- 97
    have q7 : x7.toInt = F 2 := by rw [q7, f4, f2]; rfl
    have a7 := a7
    rw [f4, f2] at a7 b7
    change 0 ≤ F 2 at a7
    change F 2 ≤ 600 at b7 -- 97
    refine hM_ba M4 (by decide) (K := 0) (R2 := 13) (L := 600) (H := 600) (lo := (-128)) (hi := 127) rfl (by decide) rfl rfl (Or.inl rfl) (fun _ => rfl) rfl q7 (by omega) (by omega) rfl (fun x8 q8 a8 b8 => ?_) -- 100
    refine hM_is0 (as := [.int x8]) (r := []) rfl rfl (by decide +kernel) rfl rfl rfl rfl rfl ?_ -- 101
    exact g0 h2 F2 f2 h4 F4 f4 x8 q8 M4 a1 b1 a6 b6 c81 a8 b8
  · refine hI_al (k := 0) rfl e0 rfl ?_ -- 84
    refine hM_ic (n := 0) rfl (by decide) rfl (fun x9 q9 => ?_) -- 85
    refine hM_pi M4 (by decide) ok_106 rfl rfl (k := 4) (c := 4) (lo := (-2147483648)) (hi := 2147483647) rfl rfl ⟨by decide, by decide +kernel, rfl⟩ rfl (d_subm hw (by decide +kernel)) q9 (by omega) (by omega) rfl (fun h10 F10 f10 M10 => ?_) -- 86
    refine hI_go (pc' := 169) (off := 80) rfl (by decide) ?_ -- 89
    refine hI_rv rfl rfl ?_
    exact g1 h2 F2 f2 h4 F4 f4 h10 F10 f10 M10 a1 b1 a6 b6 c81
theorem s_nt104 {z : Int} (M : MX 106 W ρ m A h0 h F V G) (e0 : m_lk lv 0 = some (.ref m)) {sx0 : Int32} (sq0 : sx0.toInt = z) (i1 : F 2 < F 1) (n6 : F 1 ≤ 600)
    (g0 : ∀ x2 : Int32, x2.toInt = V 0 (F 2).toNat → z = 0 → 0 ≤ F 2 → F 2 ≤ 600 → (-128) ≤ V 0 (F 2).toNat → V 0 (F 2).toNat ≤ 127 → HJ 32 0 (lv_args 0 [.int x2]) [] h (fun v h' => HJ 16 126 lv (v.toList ++ []) h' Q))
    (g1 : z ≠ 0 → HJ 18 0 (lv_args 0 [.ref m]) [] h (fun v h' => HJ 16 111 lv (v.toList ++ []) h' Q))
    : HJ 16 104 lv [.int sx0] h Q := by
  refine hM_zeq (off := 10) (t := 114) rfl sq0 (by decide) rfl (fun c104 => ?_) (fun c104 => ?_) -- 104
  · refine hI_al (k := 0) rfl e0 rfl ?_ -- 114
    refine hM_ga M (by decide) rfl rfl (k := 0) (c := 4) rfl rfl rfl (by decide +kernel) rfl ?_ -- 115
    refine hI_al (k := 0) rfl e0 rfl ?_ -- 118
    refine hM_gi M (by decide) rfl rfl rfl (k := 2) (c := 4) (lo := 0) (hi := 600) rfl rfl rfl rfl rfl (fun x1 q1 a1 b1 => ?_) -- 119
    refine hM_ba M (by decide) (K := 0) (R2 := 13) (L := 600) (H := 600) (lo := (-128)) (hi := 127) rfl (by decide) rfl rfl (Or.inl rfl) (fun _ => rfl) rfl q1 (by omega) (by omega) rfl (fun x2 q2 a2 b2 => ?_) -- 122
    refine hM_is0 (as := [.int x2]) (r := []) rfl rfl (by decide +kernel) rfl rfl rfl rfl rfl ?_ -- 123
    exact g0 x2 q2 c104 a1 b1 a2 b2
  · refine hI_al (k := 0) rfl e0 rfl ?_ -- 107
    refine hM_iv M (by decide) rfl rfl (by decide) (as := []) (r := []) rfl rfl (by decide +kernel) rfl (by decide +kernel) rfl rfl rfl rfl rfl ?_ -- 108
    exact g1 c104
theorem s_nt111   
    (g0 : Q none h)
    : HJ 16 111 lv [] h Q := by
  refine hI_go (pc' := 169) (off := 58) rfl (by decide) ?_ -- 111
  refine hI_rv rfl rfl ?_
  exact g0 
theorem s_nt126 {z : Int} (M : MX 106 W ρ m A h0 h F V G) (e0 : m_lk lv 0 = some (.ref m)) {sx0 : Int32} (sq0 : sx0.toInt = z) (i1 : F 2 < F 1) (n6 : F 1 ≤ 600)(hw : d_sub [(106, 3), (106, 4)] W = true)
    (g0 : ∀ h4 : MH, ∀ F4 : Nat → Int, F4 = m_u F 3 ((F 2) + 1) → ∀ h9 : MH, ∀ F9 : Nat → Int, F9 = m_u F4 4 (4) → MX 106 W ρ m A h0 h9 F9 V G → z = 0 → 0 ≤ F 2 → F 2 ≤ 600 → (-128) ≤ V 0 (F 2).toNat → V 0 (F 2).toNat ≤ 127 → V 0 (F 2).toNat ≠ 59 → Q none h9)
    (g1 : ∀ h4 : MH, ∀ F4 : Nat → Int, F4 = m_u F 3 ((F 2) + 1) → ∀ h11 : MH, ∀ F11 : Nat → Int, F11 = m_u F4 4 (3) → MX 106 W ρ m A h0 h11 F11 V G → z = 0 → 0 ≤ F 2 → F 2 ≤ 600 → (-128) ≤ V 0 (F 2).toNat → V 0 (F 2).toNat ≤ 127 → V 0 (F 2).toNat = 59 → Q none h11)
    (g2 : z ≠ 0 → HJ 33 0 (lv_args 0 [.ref m]) [] h (fun v h' => HJ 16 133 lv (v.toList ++ []) h' Q))
    : HJ 16 126 lv [.int sx0] h Q := by
  refine hM_zeq (off := 10) (t := 136) rfl sq0 (by decide) rfl (fun c126 => ?_) (fun c126 => ?_) -- 126
  · refine hI_al (k := 0) rfl e0 rfl ?_ -- 136
    refine hI_al (k := 0) rfl e0 rfl ?_ -- 137
    refine hM_gi M (by decide) rfl rfl rfl (k := 2) (c := 4) (lo := 0) (hi := 600) rfl rfl rfl rfl rfl (fun x1 q1 a1 b1 => ?_) -- 138
    refine hM_ic (n := 1) rfl (by decide) rfl (fun x2 q2 => ?_) -- 141
    refine hM_add rfl q1 q2 (by omega) (by omega) rfl (fun x3 q3 => ?_) -- 142
    refine hM_pi M (by decide) ok_106 rfl rfl (k := 3) (c := 4) (lo := 0) (hi := 600) rfl rfl ⟨by decide, by decide +kernel, rfl⟩ rfl (d_subm hw (by decide +kernel)) q3 (by omega) (by omega) rfl (fun h4 F4 f4 M4 => ?_) -- 143
    refine hI_al (k := 0) rfl e0 rfl ?_ -- 146
    refine hI_al (k := 0) rfl e0 rfl ?_ -- 147
    refine hM_ga M4 (by decide) rfl rfl (k := 0) (c := 4) rfl rfl rfl (by decide +kernel) rfl ?_ -- 148
    refine hI_al (k := 0) rfl e0 rfl ?_ -- 151
    refine hM_gi M4 (by decide) rfl rfl rfl (k := 2) (c := 4) (lo := 0) (hi := 600) rfl rfl rfl rfl rfl (fun x5 q5 a5 b5 => ?_) -- 152
    have q5 : x5.toInt = F 2 := by rw [q5, f4]; rfl
    have a5 := a5
    rw [f4] at a5 b5
    change 0 ≤ F 2 at a5
    change F 2 ≤ 600 at b5 -- 152
    refine hM_ba M4 (by decide) (K := 0) (R2 := 13) (L := 600) (H := 600) (lo := (-128)) (hi := 127) rfl (by decide) rfl rfl (Or.inl rfl) (fun _ => rfl) rfl q5 (by omega) (by omega) rfl (fun x6 q6 a6 b6 => ?_) -- 155
    refine hM_bp (n := 59) rfl (by decide) rfl (fun x7 q7 => ?_) -- 156
    refine hM_cne (off := 7) (t := 165) rfl q6 q7 (by decide) rfl (fun c158 => ?_) (fun c158 => ?_) -- 158
    · refine hM_ic (n := 4) rfl (by decide) rfl (fun x8 q8 => ?_) -- 165
      refine hM_pi M4 (by decide) ok_106 rfl rfl (k := 4) (c := 4) (lo := (-2147483648)) (hi := 2147483647) rfl rfl ⟨by decide, by decide +kernel, rfl⟩ rfl (d_subm hw (by decide +kernel)) q8 (by omega) (by omega) rfl (fun h9 F9 f9 M9 => ?_) -- 166
      refine hI_rv rfl rfl ?_
      exact g0 h4 F4 f4 h9 F9 f9 M9 c126 a1 b1 a6 b6 c158
    · refine hM_ic (n := 3) rfl (by decide) rfl (fun x10 q10 => ?_) -- 161
      refine hI_go (pc' := 166) (off := 4) rfl (by decide) ?_ -- 162
      refine hM_pi M4 (by decide) ok_106 rfl rfl (k := 4) (c := 4) (lo := (-2147483648)) (hi := 2147483647) rfl rfl ⟨by decide, by decide +kernel, rfl⟩ rfl (d_subm hw (by decide +kernel)) q10 (by omega) (by omega) rfl (fun h11 F11 f11 M11 => ?_) -- 166
      refine hI_rv rfl rfl ?_
      exact g1 h4 F4 f4 h11 F11 f11 M11 c126 a1 b1 a6 b6 c158
  · refine hI_al (k := 0) rfl e0 rfl ?_ -- 129
    refine hM_iv M (by decide) rfl rfl (by decide) (as := []) (r := []) rfl rfl (by decide +kernel) rfl (by decide +kernel) rfl rfl rfl rfl rfl ?_ -- 130
    exact g2 c126
theorem s_nt133   
    (g0 : Q none h)
    : HJ 16 133 lv [] h Q := by
  refine hI_go (pc' := 169) (off := 36) rfl (by decide) ?_ -- 133
  refine hI_rv rfl rfl ?_
  exact g0 
theorem s_rw0 (M : MX 106 W ρ m A h0 h F V G) (e0 : m_lk lv 0 = some (.ref m)) 
    (g0 : 0 ≤ F 3 → F 3 ≤ 600 → 0 ≤ F 1 → F 1 ≤ 600 → F 3 ≥ F 1 → HJ 18 39 lv [] h Q)
    (g1 : ∀ x4 : Int32, x4.toInt = V 0 (F 3).toNat → 0 ≤ F 3 → F 3 ≤ 600 → 0 ≤ F 1 → F 1 ≤ 600 → F 3 < F 1 → (-128) ≤ V 0 (F 3).toNat → V 0 (F 3).toNat ≤ 127 → HJ 17 0 (lv_args 0 [.int x4]) [] h (fun v h' => HJ 18 23 lv (v.toList ++ []) h' Q))
    : HJ 18 0 lv [] h Q := by
  refine hI_al (k := 0) rfl e0 rfl ?_ -- 0
  refine hM_gi M (by decide) rfl rfl rfl (k := 3) (c := 4) (lo := 0) (hi := 600) rfl rfl rfl rfl rfl (fun x1 q1 a1 b1 => ?_) -- 1
  refine hI_al (k := 0) rfl e0 rfl ?_ -- 4
  refine hM_gi M (by decide) rfl rfl rfl (k := 1) (c := 4) (lo := 0) (hi := 600) rfl rfl rfl rfl rfl (fun x2 q2 a2 b2 => ?_) -- 5
  refine hM_cge (off := 31) (t := 39) rfl q1 q2 (by decide) rfl (fun c8 => ?_) (fun c8 => ?_) -- 8
  · exact g0 a1 b1 a2 b2 c8
  · refine hI_al (k := 0) rfl e0 rfl ?_ -- 11
    refine hM_ga M (by decide) rfl rfl (k := 0) (c := 4) rfl rfl rfl (by decide +kernel) rfl ?_ -- 12
    refine hI_al (k := 0) rfl e0 rfl ?_ -- 15
    refine hM_gi M (by decide) rfl rfl rfl (k := 3) (c := 4) (lo := 0) (hi := 600) rfl rfl rfl rfl rfl (fun x3 q3 a3 b3 => ?_) -- 16
    refine hM_ba M (by decide) (K := 0) (R2 := 13) (L := 600) (H := 600) (lo := (-128)) (hi := 127) rfl (by decide) rfl rfl (Or.inl rfl) (fun _ => rfl) rfl q3 (by omega) (by omega) rfl (fun x4 q4 a4 b4 => ?_) -- 19
    refine hM_is0 (as := [.int x4]) (r := []) rfl rfl (by decide +kernel) rfl rfl rfl rfl rfl ?_ -- 20
    exact g1 x4 q4 a1 b1 a2 b2 c8 a4 b4
theorem s_rw23 {z : Int} (M : MX 106 W ρ m A h0 h F V G) (e0 : m_lk lv 0 = some (.ref m)) {sx0 : Int32} (sq0 : sx0.toInt = z) (i1 : F 3 < F 1) (n6 : F 1 ≤ 600)(hw : d_sub [(106, 3)] W = true)
    (g0 : z = 0 → HJ 18 39 lv [] h Q)
    (g1 : ∀ h4 : MH, ∀ F4 : Nat → Int, F4 = m_u F 3 ((F 3) + 1) → MX 106 W ρ m A h0 h4 F4 V G → z ≠ 0 → 0 ≤ F 3 → F 3 ≤ 600 → HJ 18 0 lv [] h4 Q)
    : HJ 18 23 lv [.int sx0] h Q := by
  refine hM_zeq (off := 16) (t := 39) rfl sq0 (by decide) rfl (fun c23 => ?_) (fun c23 => ?_) -- 23
  · exact g0 c23
  · refine hI_al (k := 0) rfl e0 rfl ?_ -- 26
    refine hI_dup rfl rfl rfl ?_ -- 27
    refine hM_gi M (by decide) rfl rfl rfl (k := 3) (c := 4) (lo := 0) (hi := 600) rfl rfl rfl rfl rfl (fun x1 q1 a1 b1 => ?_) -- 28
    refine hM_ic (n := 1) rfl (by decide) rfl (fun x2 q2 => ?_) -- 31
    refine hM_add rfl q1 q2 (by omega) (by omega) rfl (fun x3 q3 => ?_) -- 32
    refine hM_pi M (by decide) ok_106 rfl rfl (k := 3) (c := 4) (lo := 0) (hi := 600) rfl rfl ⟨by decide, by decide +kernel, rfl⟩ rfl (d_subm hw (by decide +kernel)) q3 (by omega) (by omega) rfl (fun h4 F4 f4 M4 => ?_) -- 33
    refine hI_go (pc' := 0) (off := (-36)) rfl (by decide) ?_ -- 36
    exact g1 h4 F4 f4 M4 c23 a1 b1
theorem s_rw39 (M : MX 106 W ρ m A h0 h F V G) (e0 : m_lk lv 0 = some (.ref m)) (hw : d_sub [(106, 4)] W = true)
    (g0 : ∀ h2 : MH, ∀ F2 : Nat → Int, F2 = m_u F 4 (1) → ∀ x3 : Int32, x3.toInt = 0 → ∀ lv4 : List (Nat × Value), MX 106 W ρ m A h0 h2 F2 V G → m_lk lv4 0 = some (.ref m) → m_lk lv4 1 = some (.int x3) → HJ 18 46 lv4 [] h2 Q)
    : HJ 18 39 lv [] h Q := by
  refine hI_al (k := 0) rfl e0 rfl ?_ -- 39
  refine hM_ic (n := 1) rfl (by decide) rfl (fun x1 q1 => ?_) -- 40
  refine hM_pi M (by decide) ok_106 rfl rfl (k := 4) (c := 4) (lo := (-2147483648)) (hi := 2147483647) rfl rfl ⟨by decide, by decide +kernel, rfl⟩ rfl (d_subm hw (by decide +kernel)) q1 (by omega) (by omega) rfl (fun h2 F2 f2 M2 => ?_) -- 41
  refine hM_ic (n := 0) rfl (by decide) rfl (fun x3 q3 => ?_) -- 44
  refine hM_si (k := 1) rfl (by decide +kernel) rfl (fun lv4 e4_1 u4 => ?_) -- 45
  have e4_0 := u4 0 _ (by decide) (Or.inl rfl) e0
  exact g0 h2 F2 f2 x3 q3 lv4 M2 e4_0 e4_1
theorem s_rw46 {k : Int} (M : MX 106 W ρ m A h0 h F V G) (e0 : m_lk lv 0 = some (.ref m)) {lx1 : Int32} (e1 : m_lk lv 1 = some (.int lx1)) (lq1 : lx1.toInt = k) 
    (g0 : k ≥ 6 → Q none h)
    (g1 : k < 6 → HJ 19 0 (lv_args 0 [.int lx1]) [] h (fun v h' => HJ 18 57 lv (v.toList ++ [.ref m]) h' Q))
    : HJ 18 46 lv [] h Q := by
  refine hI_il (k := 1) rfl e1 rfl ?_ -- 46
  refine hM_bp (n := 6) rfl (by decide) rfl (fun x1 q1 => ?_) -- 47
  refine hM_cge (off := 25) (t := 74) rfl lq1 q1 (by decide) rfl (fun c49 => ?_) (fun c49 => ?_) -- 49
  · refine hI_rv rfl rfl ?_
    exact g0 c49
  · refine hI_al (k := 0) rfl e0 rfl ?_ -- 52
    refine hI_il (k := 1) rfl e1 rfl ?_ -- 53
    refine hM_is0 (as := [.int lx1]) (r := [.ref m]) rfl rfl (by decide +kernel) rfl rfl rfl rfl rfl ?_ -- 54
    exact g1 c49
theorem s_rw60 {k z : Int} (M : MX 106 W ρ m A h0 h F V G) (e0 : m_lk lv 0 = some (.ref m)) {lx1 : Int32} (e1 : m_lk lv 1 = some (.int lx1)) (lq1 : lx1.toInt = k) {sx0 : Int32} (sq0 : sx0.toInt = z) (k0 : 0 ≤ k) (k5 : k ≤ 5)(hw : d_sub [(106, 5)] W = true)
    (g0 : ∀ x1 : Int32, x1.toInt = k + 1 → ∀ lv1 : List (Nat × Value), m_lk lv1 0 = some (.ref m) → m_lk lv1 1 = some (.int x1) → z = 0 → HJ 18 46 lv1 [] h Q)
    (g1 : ∀ h2 : MH, ∀ F2 : Nat → Int, F2 = m_u F 5 (k) → ∀ x3 : Int32, x3.toInt = k + 1 → ∀ lv3 : List (Nat × Value), MX 106 W ρ m A h0 h2 F2 V G → m_lk lv3 0 = some (.ref m) → m_lk lv3 1 = some (.int x3) → z ≠ 0 → HJ 18 46 lv3 [] h2 Q)
    : HJ 18 60 lv [.int sx0] h Q := by
  refine hM_zeq (off := 8) (t := 68) rfl sq0 (by decide) rfl (fun c60 => ?_) (fun c60 => ?_) -- 60
  · refine hM_inc (k := 1) (z := 1) rfl e1 lq1 (by decide) (by omega) (by omega) (by decide +kernel) rfl (fun lv1 x1 q1 e1_1 u1 => ?_) -- 68
    have e1_0 := u1 0 _ (by decide) (Or.inl rfl) e0
    refine hI_go (pc' := 46) (off := (-25)) rfl (by decide) ?_ -- 71
    exact g0 x1 q1 lv1 e1_0 e1_1 c60
  · refine hI_al (k := 0) rfl e0 rfl ?_ -- 63
    refine hI_il (k := 1) rfl e1 rfl ?_ -- 64
    refine hM_pi M (by decide) ok_106 rfl rfl (k := 5) (c := 4) (lo := (-2147483648)) (hi := 2147483647) rfl rfl ⟨by decide, by decide +kernel, rfl⟩ rfl (d_subm hw (by decide +kernel)) lq1 (by omega) (by omega) rfl (fun h2 F2 f2 M2 => ?_) -- 65
    refine hM_inc (k := 1) (z := 1) rfl e1 lq1 (by decide) (by omega) (by omega) (by decide +kernel) rfl (fun lv3 x3 q3 e3_1 u3 => ?_) -- 68
    have e3_0 := u3 0 _ (by decide) (Or.inl rfl) e0
    refine hI_go (pc' := 46) (off := (-25)) rfl (by decide) ?_ -- 71
    exact g1 h2 F2 f2 x3 q3 lv3 M2 e3_0 e3_1 c60
theorem s_rn0 (M : MX 106 W ρ m A h0 h F V G) (e0 : m_lk lv 0 = some (.ref m)) (hw : d_sub [(106, 5)] W = true)
    (g0 : ∀ h2 : MH, ∀ F2 : Nat → Int, F2 = m_u F 5 (0) → MX 106 W ρ m A h0 h2 F2 V G → HJ 33 5 lv [] h2 Q)
    : HJ 33 0 lv [] h Q := by
  refine hI_al (k := 0) rfl e0 rfl ?_ -- 0
  refine hM_ic (n := 0) rfl (by decide) rfl (fun x1 q1 => ?_) -- 1
  refine hM_pi M (by decide) ok_106 rfl rfl (k := 5) (c := 4) (lo := (-2147483648)) (hi := 2147483647) rfl rfl ⟨by decide, by decide +kernel, rfl⟩ rfl (d_subm hw (by decide +kernel)) q1 (by omega) (by omega) rfl (fun h2 F2 f2 M2 => ?_) -- 2
  exact g0 h2 F2 f2 M2
theorem s_rn5 (M : MX 106 W ρ m A h0 h F V G) (e0 : m_lk lv 0 = some (.ref m)) 
    (g0 : 0 ≤ F 3 → F 3 ≤ 600 → 0 ≤ F 1 → F 1 ≤ 600 → F 3 ≥ F 1 → HJ 33 68 lv [] h Q)
    (g1 : ∀ x4 : Int32, x4.toInt = V 0 (F 3).toNat → 0 ≤ F 3 → F 3 ≤ 600 → 0 ≤ F 1 → F 1 ≤ 600 → F 3 < F 1 → (-128) ≤ V 0 (F 3).toNat → V 0 (F 3).toNat ≤ 127 → HJ 32 0 (lv_args 0 [.int x4]) [] h (fun v h' => HJ 33 28 lv (v.toList ++ []) h' Q))
    : HJ 33 5 lv [] h Q := by
  refine hI_al (k := 0) rfl e0 rfl ?_ -- 5
  refine hM_gi M (by decide) rfl rfl rfl (k := 3) (c := 4) (lo := 0) (hi := 600) rfl rfl rfl rfl rfl (fun x1 q1 a1 b1 => ?_) -- 6
  refine hI_al (k := 0) rfl e0 rfl ?_ -- 9
  refine hM_gi M (by decide) rfl rfl rfl (k := 1) (c := 4) (lo := 0) (hi := 600) rfl rfl rfl rfl rfl (fun x2 q2 a2 b2 => ?_) -- 10
  refine hM_cge (off := 55) (t := 68) rfl q1 q2 (by decide) rfl (fun c13 => ?_) (fun c13 => ?_) -- 13
  · exact g0 a1 b1 a2 b2 c13
  · refine hI_al (k := 0) rfl e0 rfl ?_ -- 16
    refine hM_ga M (by decide) rfl rfl (k := 0) (c := 4) rfl rfl rfl (by decide +kernel) rfl ?_ -- 17
    refine hI_al (k := 0) rfl e0 rfl ?_ -- 20
    refine hM_gi M (by decide) rfl rfl rfl (k := 3) (c := 4) (lo := 0) (hi := 600) rfl rfl rfl rfl rfl (fun x3 q3 a3 b3 => ?_) -- 21
    refine hM_ba M (by decide) (K := 0) (R2 := 13) (L := 600) (H := 600) (lo := (-128)) (hi := 127) rfl (by decide) rfl rfl (Or.inl rfl) (fun _ => rfl) rfl q3 (by omega) (by omega) rfl (fun x4 q4 a4 b4 => ?_) -- 24
    refine hM_is0 (as := [.int x4]) (r := []) rfl rfl (by decide +kernel) rfl rfl rfl rfl rfl ?_ -- 25
    exact g1 x4 q4 a1 b1 a2 b2 c13 a4 b4
theorem s_rn28 {z : Int} (M : MX 106 W ρ m A h0 h F V G) (e0 : m_lk lv 0 = some (.ref m)) {sx0 : Int32} (sq0 : sx0.toInt = z) (i1 : F 3 < F 1) (n6 : F 1 ≤ 600)(hw : d_sub [(106, 5), (106, 3)] W = true)
    (g0 : z = 0 → HJ 33 68 lv [] h Q)
    (g1 : ∀ z3 : Int, -2147483648 ≤ z3 → z3 ≤ 2147483647 → ∀ z6 : Int, -2147483648 ≤ z6 → z6 ≤ 2147483647 → ∀ z8 : Int, -2147483648 ≤ z8 → z8 ≤ 2147483647 → ∀ h9 : MH, ∀ F9 : Nat → Int, F9 = m_u F 5 (z8) → ∀ h13 : MH, ∀ F13 : Nat → Int, F13 = m_u F9 3 ((F 3) + 1) → MX 106 W ρ m A h0 h13 F13 V G → z ≠ 0 → (-2147483648) ≤ F 5 → F 5 ≤ 2147483647 → 0 ≤ F 3 → F 3 ≤ 600 → (-128) ≤ V 0 (F 3).toNat → V 0 (F 3).toNat ≤ 127 → HJ 33 5 lv [] h13 Q)
    : HJ 33 28 lv [.int sx0] h Q := by
  refine hM_zeq (off := 40) (t := 68) rfl sq0 (by decide) rfl (fun c28 => ?_) (fun c28 => ?_) -- 28
  · exact g0 c28
  · refine hI_al (k := 0) rfl e0 rfl ?_ -- 31
    refine hI_al (k := 0) rfl e0 rfl ?_ -- 32
    refine hM_gi M (by decide) rfl rfl rfl (k := 5) (c := 4) (lo := (-2147483648)) (hi := 2147483647) rfl rfl rfl rfl rfl (fun x1 q1 a1 b1 => ?_) -- 33
    refine hM_bp (n := 10) rfl (by decide) rfl (fun x2 q2 => ?_) -- 36
    refine hM_mulw rfl rfl (fun x3 z3 q3 a3 b3 => ?_) -- 38
    refine hI_al (k := 0) rfl e0 rfl ?_ -- 39
    refine hM_ga M (by decide) rfl rfl (k := 0) (c := 4) rfl rfl rfl (by decide +kernel) rfl ?_ -- 40
    refine hI_al (k := 0) rfl e0 rfl ?_ -- 43
    refine hM_gi M (by decide) rfl rfl rfl (k := 3) (c := 4) (lo := 0) (hi := 600) rfl rfl rfl rfl rfl (fun x4 q4 a4 b4 => ?_) -- 44
    refine hM_ba M (by decide) (K := 0) (R2 := 13) (L := 600) (H := 600) (lo := (-128)) (hi := 127) rfl (by decide) rfl rfl (Or.inl rfl) (fun _ => rfl) rfl q4 (by omega) (by omega) rfl (fun x5 q5 a5 b5 => ?_) -- 47
    refine hM_addw rfl rfl (fun x6 z6 q6 a6 b6 => ?_) -- 48
    refine hM_bp (n := 48) rfl (by decide) rfl (fun x7 q7 => ?_) -- 49
    refine hM_subw rfl rfl (fun x8 z8 q8 a8 b8 => ?_) -- 51
    refine hM_pi M (by decide) ok_106 rfl rfl (k := 5) (c := 4) (lo := (-2147483648)) (hi := 2147483647) rfl rfl ⟨by decide, by decide +kernel, rfl⟩ rfl (d_subm hw (by decide +kernel)) q8 (by omega) (by omega) rfl (fun h9 F9 f9 M9 => ?_) -- 52
    refine hI_al (k := 0) rfl e0 rfl ?_ -- 55
    refine hI_dup rfl rfl rfl ?_ -- 56
    refine hM_gi M9 (by decide) rfl rfl rfl (k := 3) (c := 4) (lo := 0) (hi := 600) rfl rfl rfl rfl rfl (fun x10 q10 a10 b10 => ?_) -- 57
    have q10 : x10.toInt = F 3 := by rw [q10, f9]; rfl
    have a10 := a10
    rw [f9] at a10 b10
    change 0 ≤ F 3 at a10
    change F 3 ≤ 600 at b10 -- 57
    refine hM_ic (n := 1) rfl (by decide) rfl (fun x11 q11 => ?_) -- 60
    refine hM_add rfl q10 q11 (by omega) (by omega) rfl (fun x12 q12 => ?_) -- 61
    refine hM_pi M9 (by decide) ok_106 rfl rfl (k := 3) (c := 4) (lo := 0) (hi := 600) rfl rfl ⟨by decide, by decide +kernel, rfl⟩ rfl (d_subm hw (by decide +kernel)) q12 (by omega) (by omega) rfl (fun h13 F13 f13 M13 => ?_) -- 62
    refine hI_go (pc' := 5) (off := (-60)) rfl (by decide) ?_ -- 65
    exact g1 z3 a3 b3 z6 a6 b6 z8 a8 b8 h9 F9 f9 h13 F13 f13 M13 c28 a1 b1 a4 b4 a5 b5
theorem s_rn28x {z : Int} (M : MX 106 W ρ m A h0 h F V G) (e0 : m_lk lv 0 = some (.ref m)) {sx0 : Int32} (sq0 : sx0.toInt = z) (i1 : F 3 < F 1) (n6 : F 1 ≤ 600) (z1 : z ≠ 0) (v0 : 0 ≤ F 5) (v1 : F 5 ≤ 9) (c0 : 48 ≤ V 0 (F 3).toNat) (c1 : V 0 (F 3).toNat ≤ 57)(hw : d_sub [(106, 5), (106, 3)] W = true)
    (g0 : z = 0 → HJ 33 68 lv [] h Q)
    (g1 : ∀ h9 : MH, ∀ F9 : Nat → Int, F9 = m_u F 5 ((((F 5) * 10) + (V 0 (F 3).toNat)) - 48) → ∀ h13 : MH, ∀ F13 : Nat → Int, F13 = m_u F9 3 ((F 3) + 1) → MX 106 W ρ m A h0 h13 F13 V G → z ≠ 0 → (-2147483648) ≤ F 5 → F 5 ≤ 2147483647 → 0 ≤ F 3 → F 3 ≤ 600 → (-128) ≤ V 0 (F 3).toNat → V 0 (F 3).toNat ≤ 127 → HJ 33 5 lv [] h13 Q)
    : HJ 33 28 lv [.int sx0] h Q := by
  refine hM_zeq (off := 40) (t := 68) rfl sq0 (by decide) rfl (fun c28 => ?_) (fun c28 => ?_) -- 28
  · exact g0 c28
  · refine hI_al (k := 0) rfl e0 rfl ?_ -- 31
    refine hI_al (k := 0) rfl e0 rfl ?_ -- 32
    refine hM_gi M (by decide) rfl rfl rfl (k := 5) (c := 4) (lo := (-2147483648)) (hi := 2147483647) rfl rfl rfl rfl rfl (fun x1 q1 a1 b1 => ?_) -- 33
    refine hM_bp (n := 10) rfl (by decide) rfl (fun x2 q2 => ?_) -- 36
    refine hM_mul rfl q1 q2 (by omega) (by omega) rfl (fun x3 q3 => ?_) -- 38
    refine hI_al (k := 0) rfl e0 rfl ?_ -- 39
    refine hM_ga M (by decide) rfl rfl (k := 0) (c := 4) rfl rfl rfl (by decide +kernel) rfl ?_ -- 40
    refine hI_al (k := 0) rfl e0 rfl ?_ -- 43
    refine hM_gi M (by decide) rfl rfl rfl (k := 3) (c := 4) (lo := 0) (hi := 600) rfl rfl rfl rfl rfl (fun x4 q4 a4 b4 => ?_) -- 44
    refine hM_ba M (by decide) (K := 0) (R2 := 13) (L := 600) (H := 600) (lo := (-128)) (hi := 127) rfl (by decide) rfl rfl (Or.inl rfl) (fun _ => rfl) rfl q4 (by omega) (by omega) rfl (fun x5 q5 a5 b5 => ?_) -- 47
    refine hM_add rfl q3 q5 (by omega) (by omega) rfl (fun x6 q6 => ?_) -- 48
    refine hM_bp (n := 48) rfl (by decide) rfl (fun x7 q7 => ?_) -- 49
    refine hM_sub rfl q6 q7 (by omega) (by omega) rfl (fun x8 q8 => ?_) -- 51
    refine hM_pi M (by decide) ok_106 rfl rfl (k := 5) (c := 4) (lo := (-2147483648)) (hi := 2147483647) rfl rfl ⟨by decide, by decide +kernel, rfl⟩ rfl (d_subm hw (by decide +kernel)) q8 (by omega) (by omega) rfl (fun h9 F9 f9 M9 => ?_) -- 52
    refine hI_al (k := 0) rfl e0 rfl ?_ -- 55
    refine hI_dup rfl rfl rfl ?_ -- 56
    refine hM_gi M9 (by decide) rfl rfl rfl (k := 3) (c := 4) (lo := 0) (hi := 600) rfl rfl rfl rfl rfl (fun x10 q10 a10 b10 => ?_) -- 57
    have q10 : x10.toInt = F 3 := by rw [q10, f9]; rfl
    have a10 := a10
    rw [f9] at a10 b10
    change 0 ≤ F 3 at a10
    change F 3 ≤ 600 at b10 -- 57
    refine hM_ic (n := 1) rfl (by decide) rfl (fun x11 q11 => ?_) -- 60
    refine hM_add rfl q10 q11 (by omega) (by omega) rfl (fun x12 q12 => ?_) -- 61
    refine hM_pi M9 (by decide) ok_106 rfl rfl (k := 3) (c := 4) (lo := 0) (hi := 600) rfl rfl ⟨by decide, by decide +kernel, rfl⟩ rfl (d_subm hw (by decide +kernel)) q12 (by omega) (by omega) rfl (fun h13 F13 f13 M13 => ?_) -- 62
    refine hI_go (pc' := 5) (off := (-60)) rfl (by decide) ?_ -- 65
    exact g1 h9 F9 f9 h13 F13 f13 M13 c28 a1 b1 a4 b4 a5 b5
theorem s_rn68 (M : MX 106 W ρ m A h0 h F V G) (e0 : m_lk lv 0 = some (.ref m)) (hw : d_sub [(106, 4)] W = true)
    (g0 : ∀ h6 : MH, ∀ F6 : Nat → Int, F6 = m_u F 4 (4) → MX 106 W ρ m A h0 h6 F6 V G → 0 ≤ F 3 → F 3 ≤ 600 → 0 ≤ F 2 → F 2 ≤ 600 → (F 3) - (F 2) > 2 → Q none h6)
    (g1 : ∀ h8 : MH, ∀ F8 : Nat → Int, F8 = m_u F 4 (2) → MX 106 W ρ m A h0 h8 F8 V G → 0 ≤ F 3 → F 3 ≤ 600 → 0 ≤ F 2 → F 2 ≤ 600 → (F 3) - (F 2) ≤ 2 → Q none h8)
    : HJ 33 68 lv [] h Q := by
  refine hI_al (k := 0) rfl e0 rfl ?_ -- 68
  refine hI_al (k := 0) rfl e0 rfl ?_ -- 69
  refine hM_gi M (by decide) rfl rfl rfl (k := 3) (c := 4) (lo := 0) (hi := 600) rfl rfl rfl rfl rfl (fun x1 q1 a1 b1 => ?_) -- 70
  refine hI_al (k := 0) rfl e0 rfl ?_ -- 73
  refine hM_gi M (by decide) rfl rfl rfl (k := 2) (c := 4) (lo := 0) (hi := 600) rfl rfl rfl rfl rfl (fun x2 q2 a2 b2 => ?_) -- 74
  refine hM_sub rfl q1 q2 (by omega) (by omega) rfl (fun x3 q3 => ?_) -- 77
  refine hM_ic (n := 2) rfl (by decide) rfl (fun x4 q4 => ?_) -- 78
  refine hM_cgt (off := 7) (t := 86) rfl q3 q4 (by decide) rfl (fun c79 => ?_) (fun c79 => ?_) -- 79
  · refine hM_ic (n := 4) rfl (by decide) rfl (fun x5 q5 => ?_) -- 86
    refine hM_pi M (by decide) ok_106 rfl rfl (k := 4) (c := 4) (lo := (-2147483648)) (hi := 2147483647) rfl rfl ⟨by decide, by decide +kernel, rfl⟩ rfl (d_subm hw (by decide +kernel)) q5 (by omega) (by omega) rfl (fun h6 F6 f6 M6 => ?_) -- 87
    refine hI_rv rfl rfl ?_
    exact g0 h6 F6 f6 M6 a1 b1 a2 b2 c79
  · refine hM_ic (n := 2) rfl (by decide) rfl (fun x7 q7 => ?_) -- 82
    refine hI_go (pc' := 87) (off := 4) rfl (by decide) ?_ -- 83
    refine hM_pi M (by decide) ok_106 rfl rfl (k := 4) (c := 4) (lo := (-2147483648)) (hi := 2147483647) rfl rfl ⟨by decide, by decide +kernel, rfl⟩ rfl (d_subm hw (by decide +kernel)) q7 (by omega) (by omega) rfl (fun h8 F8 f8 M8 => ?_) -- 87
    refine hI_rv rfl rfl ?_
    exact g1 h8 F8 f8 M8 a1 b1 a2 b2 c79
theorem s_gn (M : MX 106 W ρ m A h0 h F V G) (e0 : m_lk lv 0 = some (.ref m)) (hw : d_sub [(106, 7), (106, 8)] W = true)
    (g0 : ∀ h2 : MH, ∀ F2 : Nat → Int, F2 = m_u F 7 (1) → ∀ h4 : MH, ∀ F4 : Nat → Int, F4 = m_u F2 8 (F 2) → ∀ x5 : Int32, x5.toInt = 0 → MX 106 W ρ m A h0 h4 F4 V G → 0 ≤ F 2 → F 2 ≤ 600 → Q (some (.int x5)) h4)
    : HJ 34 0 lv [] h Q := by
  refine hI_al (k := 0) rfl e0 rfl ?_ -- 0
  refine hM_ic (n := 1) rfl (by decide) rfl (fun x1 q1 => ?_) -- 1
  refine hM_pi M (by decide) ok_106 rfl rfl (k := 7) (c := 4) (lo := (-2147483648)) (hi := 2147483647) rfl rfl ⟨by decide, by decide +kernel, rfl⟩ rfl (d_subm hw (by decide +kernel)) q1 (by omega) (by omega) rfl (fun h2 F2 f2 M2 => ?_) -- 2
  refine hI_al (k := 0) rfl e0 rfl ?_ -- 5
  refine hI_al (k := 0) rfl e0 rfl ?_ -- 6
  refine hM_gi M2 (by decide) rfl rfl rfl (k := 2) (c := 4) (lo := 0) (hi := 600) rfl rfl rfl rfl rfl (fun x3 q3 a3 b3 => ?_) -- 7
  have q3 : x3.toInt = F 2 := by rw [q3, f2]; rfl
  have a3 := a3
  rw [f2] at a3 b3
  change 0 ≤ F 2 at a3
  change F 2 ≤ 600 at b3 -- 7
  refine hM_pi M2 (by decide) ok_106 rfl rfl (k := 8) (c := 4) (lo := (-2147483648)) (hi := 2147483647) rfl rfl ⟨by decide, by decide +kernel, rfl⟩ rfl (d_subm hw (by decide +kernel)) q3 (by omega) (by omega) rfl (fun h4 F4 f4 M4 => ?_) -- 10
  refine hM_ic (n := 0) rfl (by decide) rfl (fun x5 q5 => ?_) -- 13
  refine hM_rb rfl rfl q5 (by omega) (by omega) ?_ -- 14
  exact g0 h2 F2 f2 h4 F4 f4 x5 q5 M4 a3 b3
theorem s_nto {w p : Int} (M : MX 106 W ρ m A h0 h F V G) (e0 : m_lk lv 0 = some (.ref m)) {lx1 : Int32} (e1 : m_lk lv 1 = some (.int lx1)) (lq1 : lx1.toInt = w) {lx2 : Int32} (e2 : m_lk lv 2 = some (.int lx2)) (lq2 : lx2.toInt = p) (wT : -2147483648 ≤ w ∧ w ≤ 2147483647) (pT : -2147483648 ≤ p ∧ p ≤ 2147483647)(hw : d_sub [(106, 7), (106, 8)] W = true)
    (g0 : (-2147483648) ≤ F 7 → F 7 ≤ 2147483647 → F 7 ≠ 0 → Q none h)
    (g1 : ∀ h2 : MH, ∀ F2 : Nat → Int, F2 = m_u F 7 (w) → ∀ h3 : MH, ∀ F3 : Nat → Int, F3 = m_u F2 8 (p) → MX 106 W ρ m A h0 h3 F3 V G → (-2147483648) ≤ F 7 → F 7 ≤ 2147483647 → F 7 = 0 → Q none h3)
    : HJ 35 0 lv [] h Q := by
  refine hI_al (k := 0) rfl e0 rfl ?_ -- 0
  refine hM_gi M (by decide) rfl rfl rfl (k := 7) (c := 4) (lo := (-2147483648)) (hi := 2147483647) rfl rfl rfl rfl rfl (fun x1 q1 a1 b1 => ?_) -- 1
  refine hM_zne (off := 13) (t := 17) rfl q1 (by decide) rfl (fun c4 => ?_) (fun c4 => ?_) -- 4
  · refine hI_rv rfl rfl ?_
    exact g0 a1 b1 c4
  · refine hI_al (k := 0) rfl e0 rfl ?_ -- 7
    refine hI_il (k := 1) rfl e1 rfl ?_ -- 8
    refine hM_pi M (by decide) ok_106 rfl rfl (k := 7) (c := 4) (lo := (-2147483648)) (hi := 2147483647) rfl rfl ⟨by decide, by decide +kernel, rfl⟩ rfl (d_subm hw (by decide +kernel)) lq1 (by omega) (by omega) rfl (fun h2 F2 f2 M2 => ?_) -- 9
    refine hI_al (k := 0) rfl e0 rfl ?_ -- 12
    refine hI_il (k := 2) rfl e2 rfl ?_ -- 13
    refine hM_pi M2 (by decide) ok_106 rfl rfl (k := 8) (c := 4) (lo := (-2147483648)) (hi := 2147483647) rfl rfl ⟨by decide, by decide +kernel, rfl⟩ rfl (d_subm hw (by decide +kernel)) lq2 (by omega) (by omega) rfl (fun h3 F3 f3 M3 => ?_) -- 14
    refine hI_rv rfl rfl ?_
    exact g1 h2 F2 f2 h3 F3 f3 M3 a1 b1 c4
-- blanks
theorem l_nt8 {n S : Nat} {F0 : Nat → Int} (hw : d_sub [(106, 2)] W = true) (e0 : m_lk lv 0 = some (.ref m)) (g : ∀ (h' : MH) (F' : Nat → Int), MX 106 W ρ m A h0 h' F' V G → F' 2 = (S : Int) → (∀ K, K ≠ 2 → F' K = F0 K) → HJ 16 60 lv [] h' Q) : ∀ (d p : Nat) (h : MH) (F : Nat → Int), p + d = n → MX 106 W ρ m A h0 h F V G → F 1 = (n : Int) → F 2 = (p : Int) → (∀ K, K ≠ 2 → F K = F0 K) → rd_go rd_ws (V 0) d p = S → HJ 16 8 lv [] h Q := by
  intro d
  induction d with
  | zero =>
    intro p h F hd M q1 q2 o eS
    have eS : p = S := eS
    exact s_nt8 M e0 hw (fun _ _ _ _ _ => g h F M (by omega) o) (fun _ _ _ _ _ _ _ _ c _ _ _ => by omega) (fun _ _ _ _ c _ _ _ _ => by omega) (fun _ _ _ _ _ _ _ _ c _ _ _ _ => by omega)
  | succ d ih =>
    intro p h F hd M q1 q2 o eS
    have hp : (F 2).toNat = p := by omega
    refine s_nt8 M e0 hw (fun _ _ _ _ c => by omega) (fun h9 F9 f9 M9 _ _ _ _ _ _ _ c => ?_) (fun _ _ _ _ _ _ _ c1 c2 => ?_) (fun h9 F9 f9 M9 _ _ _ _ _ _ _ _ c => ?_)
    · rw [hp] at c
      exact ih (p + 1) h9 F9 (by omega) M9 (by rw [f9, m_uN _ _ _ _ (by decide)]; exact q1) (by rw [f9, m_uE]; omega) (fun K hK => by rw [f9, m_uN _ _ _ _ hK]; exact o K hK) (by rw [← rd_goS (rd_wsT.mpr (Or.inl c))]; exact eS)
    · rw [hp] at c1 c2
      exact g h F M (by rw [← eS, rd_goE (rd_wsF.mpr ⟨c1, c2⟩)]; exact q2) o
    · rw [hp] at c
      exact ih (p + 1) h9 F9 (by omega) M9 (by rw [f9, m_uN _ _ _ _ (by decide)]; exact q1) (by rw [f9, m_uE]; omega) (fun K hK => by rw [f9, m_uN _ _ _ _ hK]; exact o K hK) (by rw [← rd_goS (rd_wsT.mpr (Or.inr c))]; exact eS)
-- a word's letters
theorem l_rw0 {n S : Nat} {F0 : Nat → Int} (hw : d_sub [(106, 3)] W = true) (e0 : m_lk lv 0 = some (.ref m)) (g : ∀ (h' : MH) (F' : Nat → Int), MX 106 W ρ m A h0 h' F' V G → F' 3 = (S : Int) → (∀ K, K ≠ 3 → F' K = F0 K) → HJ 18 39 lv [] h' Q) : ∀ (d p : Nat) (h : MH) (F : Nat → Int), p + d = n → MX 106 W ρ m A h0 h F V G → F 1 = (n : Int) → F 3 = (p : Int) → (∀ K, K ≠ 3 → F K = F0 K) → rd_go rd_al (V 0) d p = S → HJ 18 0 lv [] h Q := by
  intro d
  induction d with
  | zero =>
    intro p h F hd M q1 q2 o eS
    have eS : p = S := eS
    exact s_rw0 M e0 (fun _ _ _ _ _ => g h F M (by omega) o) (fun _ _ _ _ _ _ c _ _ => by omega)
  | succ d ih =>
    intro p h F hd M q1 q2 o eS
    have hp : (F 3).toNat = p := by omega
    refine s_rw0 M e0 (fun _ _ _ _ c => by omega) (fun x4 q4 _ _ _ b1 c _ _ => c_isl q4 (fun z hz => s_rw23 (z := z.toInt) M e0 rfl c b1 hw (fun c0 => ?_) (fun h4 F4 f4 M4 c0 _ _ => ?_)))
    · rw [hp] at hz
      exact g h F M (by rw [← eS, rd_goE (hz.resolve_left (fun y => by omega)).2]; exact q2) o
    · rw [hp] at hz
      exact ih (p + 1) h4 F4 (by omega) M4 (by rw [f4, m_uN _ _ _ _ (by decide)]; exact q1) (by rw [f4, m_uE]; omega) (fun K hK => by rw [f4, m_uN _ _ _ _ hK]; exact o K hK) (by rw [← rd_goS (hz.resolve_right (fun y => by omega)).2]; exact eS)
-- what is asked of the names
def tl_ok (W : List (Nat × Nat)) (ρ : Nat → Nat) (m : Nat) (A : Nat → Nat) (h0 : MH) (V : Nat → Nat → Int) (G : Nat → Nat → Int64) : Prop := ∀ (k s b : Nat) (h : MH) (F : Nat → Int) (xk : Int32) (lv : List (Nat × Value)) (Q : Option Value → MH → Prop), MX 106 W ρ m A h0 h F V G → k < 6 → xk.toInt = (k : Int) → F 2 = (s : Int) → F 3 = (b : Int) → s ≤ b → b ≤ 600 → (∀ z : Int32, (z.toInt = 1 ∧ rd_is (V 0) s b (rd_nm k)) ∨ (z.toInt = 0 ∧ ¬ rd_is (V 0) s b (rd_nm k)) → HJ 18 60 lv [.int z] h Q) → HJ 19 0 (lv_args 0 [.int xk]) [] h (fun v h' => HJ 18 57 lv (v.toList ++ [.ref m]) h' Q)
theorem l_rw46 {s b : Nat} {F0 : Nat → Int} (hw : d_sub [(106, 5)] W = true) (tl : tl_ok W ρ m A h0 V G) (sb : s ≤ b) (b6 : b ≤ 600) (f2 : F0 2 = (s : Int)) (f3 : F0 3 = (b : Int)) (g : ∀ (h' : MH) (F' : Nat → Int), MX 106 W ρ m A h0 h' F' V G → F' 5 = rd_kd (V 0) s b 6 → (∀ K, K ≠ 5 → F' K = F0 K) → Q none h') : ∀ (d k : Nat) (lv : List (Nat × Value)) (h : MH) (F : Nat → Int) (xk : Int32), k + d = 6 → MX 106 W ρ m A h0 h F V G → xk.toInt = (k : Int) → m_lk lv 0 = some (.ref m) → m_lk lv 1 = some (.int xk) → F 5 = rd_kd (V 0) s b k → (∀ K, K ≠ 5 → F K = F0 K) → HJ 18 46 lv [] h Q := by
  intro d
  induction d with
  | zero =>
    intro k lv h F xk hd M qk e0 e1 v o
    have : k = 6 := by omega
    subst this
    exact s_rw46 M e0 e1 qk (fun _ => g h F M v o) (fun c => by omega)
  | succ d ih =>
    intro k lv h F xk hd M qk e0 e1 v o
    refine s_rw46 M e0 e1 qk (fun c => by omega) (fun c => tl k s b h F xk lv Q M (by omega) qk (by rw [o 2 (by decide)]; exact f2) (by rw [o 3 (by decide)]; exact f3) sb b6 (fun z hz => s_rw60 (z := z.toInt) M e0 e1 qk rfl (by omega) (by omega) hw (fun x1 q1 lv1 d0 d1 c0 => ?_) (fun h2 F2 g2 x3 q3 lv3 M2 d0 d1 c0 => ?_)))
    · refine ih (k + 1) lv1 h F x1 (by omega) M (by omega) d0 d1 ?_ o
      rw [rd_kd, if_neg (show ¬ rd_ib (V 0) s b (rd_nm k) = true from (hz.resolve_left (fun y => by omega)).2)]
      exact v
    · refine ih (k + 1) lv3 h2 F2 x3 (by omega) M2 (by omega) d0 d1 ?_ (fun K hK => by rw [g2, m_uN _ _ _ _ hK]; exact o K hK)
      rw [g2, m_uE, rd_kd, if_pos (show rd_ib (V 0) s b (rd_nm k) = true from (hz.resolve_right (fun y => by omega)).2)]
-- a number's digits: exact for two
theorem l_rn5 {n S s : Nat} {F0 : Nat → Int} (hw : d_sub [(106, 5), (106, 3)] W = true) (e0 : m_lk lv 0 = some (.ref m)) (g : ∀ (h' : MH) (F' : Nat → Int), MX 106 W ρ m A h0 h' F' V G → F' 3 = (S : Int) → (s < S → S - s ≤ 2 → F' 5 = rd_nb (V 0) s S) → (∀ K, K ≠ 3 → K ≠ 5 → F' K = F0 K) → HJ 33 68 lv [] h' Q) : ∀ (d p : Nat) (h : MH) (F : Nat → Int), p + d = n → s ≤ p → MX 106 W ρ m A h0 h F V G → F 1 = (n : Int) → F 3 = (p : Int) → (p = s → F 5 = 0) → (s < p → p - s ≤ 2 → F 5 = rd_nb (V 0) s p) → (p = s + 1 → 0 ≤ F 5 ∧ F 5 ≤ 9) → (∀ K, K ≠ 3 → K ≠ 5 → F K = F0 K) → rd_go rd_dg (V 0) d p = S → HJ 33 5 lv [] h Q := by
  intro d
  induction d with
  | zero =>
    intro p h F hd hs M q1 q2 v0 v1 v2 o eS
    have eS : p = S := eS
    subst eS
    exact s_rn5 M e0 (fun _ _ _ _ _ => g h F M q2 v1 o) (fun _ _ _ _ _ _ c _ _ => by omega)
  | succ d ih =>
    intro p h F hd hs M q1 q2 v0 v1 v2 o eS
    have hp : (F 3).toNat = p := by omega
    refine s_rn5 M e0 (fun _ _ _ _ c => by omega) (fun x4 q4 _ _ _ b1 c _ _ => c_isd q4 (fun z hz => ?_))
    rw [hp] at hz
    rcases hz with ⟨qz, hz⟩ | ⟨qz, hz⟩
    · have hz2 := rd_dgT.mp hz
      have eS2 : rd_go rd_dg (V 0) d (p + 1) = S := by rw [← rd_goS hz]; exact eS
      by_cases e9 : p ≤ s + 1
      · have v9 : 0 ≤ F 5 ∧ F 5 ≤ 9 := by
          by_cases e : p = s
          · have := v0 e
            omega
          · exact v2 (by omega)
        refine s_rn28x (z := z.toInt) M e0 rfl c b1 (by omega) v9.1 v9.2 (by rw [hp]; exact hz2.1) (by rw [hp]; exact hz2.2) hw (fun c0 => by omega) (fun h9 F9 f9 h13 F13 f13 M13 _ _ _ _ _ _ _ => ?_)
        rw [hp] at f9
        have f5 : F13 5 = F 5 * 10 + V 0 p - 48 := by rw [f13, m_uN _ _ _ _ (by decide), f9, m_uE]
        refine ih (p + 1) h13 F13 (by omega) (by omega) M13 ?_ (by rw [f13, m_uE]; omega) (fun y => by omega) (fun _ y => ?_) (fun y => ?_) (fun K h3 h5 => by rw [f13, m_uN _ _ _ _ h3, f9, m_uN _ _ _ _ h5]; exact o K h3 h5) eS2
        · rw [f13, m_uN _ _ _ _ (by decide), f9, m_uN _ _ _ _ (by decide)]
          exact q1
        · rw [f5]
          unfold rd_nb
          by_cases e : p = s
          · rw [if_pos (by omega), v0 e, e]
            omega
          · have e1 : p = s + 1 := by omega
            have v := v1 (by omega) (by omega)
            unfold rd_nb at v
            rw [if_pos e1] at v
            rw [if_neg (by omega), v, e1]
            omega
        · rw [f5, v0 (by omega)]
          omega
      · refine s_rn28 (z := z.toInt) M e0 rfl c b1 hw (fun c0 => by omega) (fun z3 _ _ z6 _ _ z8 _ _ h9 F9 f9 h13 F13 f13 M13 _ _ _ _ _ _ _ => ?_)
        refine ih (p + 1) h13 F13 (by omega) (by omega) M13 ?_ (by rw [f13, m_uE]; omega) (fun y => by omega) (fun _ y => by omega) (fun y => by omega) (fun K h3 h5 => by rw [f13, m_uN _ _ _ _ h3, f9, m_uN _ _ _ _ h5]; exact o K h3 h5) eS2
        rw [f13, m_uN _ _ _ _ (by decide), f9, m_uN _ _ _ _ (by decide)]
        exact q1
    · refine s_rn28 (z := z.toInt) M e0 rfl c b1 hw (fun c0 => ?_) (fun z3 _ _ z6 _ _ z8 _ _ h9 F9 f9 h13 F13 f13 M13 c0 _ _ _ _ _ _ => by omega)
      have eS3 : p = S := by rw [← eS, rd_goE hz]
      subst eS3
      exact g h F M q2 v1 o
def w_rt : List (Nat × Nat) := [(106, 2), (106, 3), (106, 4), (106, 5)]
theorem c_rdw {n s : Nat} (M : MX 106 W ρ m A h0 h F V G) (hw : d_sub w_rt W = true) (tl : tl_ok W ρ m A h0 V G) (q1 : F 1 = (n : Int)) (q2 : F 2 = (s : Int)) (q3 : F 3 = (s : Int)) (sn : s ≤ n) (n6 : n ≤ 600) (q5 : F 5 = -1) (g : ∀ (h' : MH) (F' : Nat → Int), MX 106 W ρ m A h0 h' F' V G → F' 3 = ((rd_go rd_al (V 0) (n - s) s : Nat) : Int) → F' 4 = 1 → F' 5 = rd_kd (V 0) s (rd_go rd_al (V 0) (n - s) s) 6 → (∀ K, K ≠ 3 → K ≠ 4 → K ≠ 5 → F' K = F K) → Q none h') : HJ 18 0 (lv_args 0 [.ref m]) [] h Q := by
  have hb := rd_goB (f := rd_al) (T := V 0) (n - s) s
  refine l_rw0 (F0 := F) (d_subm hw (by decide +kernel)) rfl (fun h1 F1 M1 e3 o1 => s_rw39 M1 rfl (d_subm hw (by decide +kernel)) (fun h2 F2 f2 x3 q3' lv4 M2 d0 d1 => ?_)) (n - s) s h F (by omega) M q1 q3 (fun _ _ => rfl) rfl
  refine l_rw46 (s := s) (b := rd_go rd_al (V 0) (n - s) s) (F0 := F2) (d_subm hw (by decide +kernel)) tl hb.1 (by omega) ?_ ?_ (fun h3 F3 M3 v3 o3 => g h3 F3 M3 ?_ ?_ v3 (fun K a b c => ?_)) 6 0 lv4 h2 F2 x3 (by omega) M2 q3' d0 d1 ?_ (fun _ _ => rfl)
  · rw [f2, m_uN _ _ _ _ (by decide), o1 2 (by decide)]
    exact q2
  · rw [f2, m_uN _ _ _ _ (by decide)]
    exact e3
  · rw [o3 3 (by decide), f2, m_uN _ _ _ _ (by decide)]
    exact e3
  · rw [o3 4 (by decide), f2, m_uE]
  · rw [o3 K c, f2, m_uN _ _ _ _ b, o1 K a]
  · rw [f2, m_uN _ _ _ _ (by decide), o1 5 (by decide)]
    exact q5
theorem c_rdn {n s : Nat} (M : MX 106 W ρ m A h0 h F V G) (hw : d_sub w_rt W = true) (q1 : F 1 = (n : Int)) (q2 : F 2 = (s : Int)) (q3 : F 3 = (s : Int)) (sn : s < n) (hd : rd_dg (V 0 s) = true) (g : ∀ (h' : MH) (F' : Nat → Int), MX 106 W ρ m A h0 h' F' V G → F' 3 = ((rd_go rd_dg (V 0) (n - s) s : Nat) : Int) → F' 4 = (if rd_go rd_dg (V 0) (n - s) s - s ≤ 2 then 2 else 4) → (F' 4 = 2 → F' 5 = rd_nb (V 0) s (rd_go rd_dg (V 0) (n - s) s)) → (∀ K, K ≠ 3 → K ≠ 4 → K ≠ 5 → F' K = F K) → Q none h') : HJ 33 0 (lv_args 0 [.ref m]) [] h Q := by
  have hb := rd_goB (f := rd_dg) (T := V 0) (n - s) s
  have hs : s < rd_go rd_dg (V 0) (n - s) s := by
    have e : n - s = (n - s - 1) + 1 := by omega
    rw [e, rd_goS hd]
    have := (rd_goB (f := rd_dg) (T := V 0) (n - s - 1) (s + 1)).1
    omega
  refine s_rn0 M rfl (d_subm hw (by decide +kernel)) (fun h2 F2 f2 M2 => ?_)
  refine l_rn5 (n := n) (S := rd_go rd_dg (V 0) (n - s) s) (s := s) (F0 := F2) (d_subm hw (by decide +kernel)) rfl (fun h3 F3 M3 e3 v3 o3 => ?_) (n - s) s h2 F2 (by omega) (Nat.le_refl _) M2 (by rw [f2, m_uN _ _ _ _ (by decide)]; exact q1) (by rw [f2, m_uN _ _ _ _ (by decide)]; exact q3) (fun _ => by rw [f2, m_uE]) (fun y => absurd y (Nat.lt_irrefl _)) (fun y => by omega) (fun _ _ _ => rfl) rfl
  have e2 : F3 2 = (s : Int) := by
    rw [o3 2 (by decide) (by decide), f2, m_uN _ _ _ _ (by decide)]
    exact q2
  refine s_rn68 M3 rfl (d_subm hw (by decide +kernel)) (fun h6 F6 f6 M6 _ _ _ _ c => g h6 F6 M6 (by rw [f6, m_uN _ _ _ _ (by decide)]; exact e3) (by rw [f6, m_uE, if_neg (by omega)]) (fun y => by rw [f6, m_uE] at y; omega) (fun K a b c => by rw [f6, m_uN _ _ _ _ b, o3 K a c, f2, m_uN _ _ _ _ c])) (fun h6 F6 f6 M6 _ _ _ _ c => g h6 F6 M6 (by rw [f6, m_uN _ _ _ _ (by decide)]; exact e3) (by rw [f6, m_uE, if_pos (by omega)]) (fun _ => by rw [f6, m_uN _ _ _ _ (by decide)]; exact v3 hs (by omega)) (fun K a b c => by rw [f6, m_uN _ _ _ _ b, o3 K a c, f2, m_uN _ _ _ _ c]))
-- a token
theorem c_nt {n p : Nat} (M : MX 106 W ρ m A h0 h F V G) (hw : d_sub w_rt W = true) (tl : tl_ok W ρ m A h0 V G) (q1 : F 1 = (n : Int)) (q3 : F 3 = (p : Int)) (pn : p ≤ n) (g : ∀ (h' : MH) (F' : Nat → Int), MX 106 W ρ m A h0 h' F' V G → F' 2 = (rt_s (rd_tk (V 0) n p) : Int) → F' 3 = (rt_b (rd_tk (V 0) n p) : Int) → F' 4 = rt_t (rd_tk (V 0) n p) → (F' 4 = 1 ∨ F' 4 = 2 → F' 5 = rt_v (rd_tk (V 0) n p)) → (∀ K, K ≠ 2 → K ≠ 3 → K ≠ 4 → K ≠ 5 → F' K = F K) → Q none h') : HJ 16 0 (lv_args 0 [.ref m]) [] h Q := by
  have hb := rd_goB (f := rd_ws) (T := V 0) (n - p) p
  have n6 : n ≤ 600 := by
    have := (M.fi (by decide) (k := 1) (lo := 0) (hi := 600) rfl rfl rfl).2
    omega
  refine s_nt0 M rfl (d_subm hw (by decide +kernel)) (fun h2 F2 f2 M2 _ _ => l_nt8 (n := n) (S := rd_go rd_ws (V 0) (n - p) p) (F0 := F2) (d_subm hw (by decide +kernel)) rfl (fun h3 F3 M3 e2 o3 => ?_) (n - p) p h2 F2 (by omega) M2 (by rw [f2, m_uN _ _ _ _ (by decide)]; exact q1) (by rw [f2, m_uE]; exact q3) (fun _ _ => rfl) rfl)
  have e1 : F3 1 = (n : Int) := by
    rw [o3 1 (by decide), f2, m_uN _ _ _ _ (by decide)]
    exact q1
  have oo : ∀ K, K ≠ 2 → F3 K = F K := fun K hK => by rw [o3 K hK, f2, m_uN _ _ _ _ hK]
  generalize hs : rd_go rd_ws (V 0) (n - p) p = s at hb e2
  have hS : (F3 2).toNat = s := by omega
  refine s_nt60 M3 rfl (d_subm hw (by decide +kernel)) (fun ha Fa fa hb' Fb fb x8 q8 Mb _ _ _ _ c _ _ => ?_) (fun ha Fa fa hb' Fb fb hc Fc fc Mc _ _ _ _ c => ?_)
  · rw [hS] at q8
    have b2 : Fb 2 = (s : Int) := by rw [fb, m_uN _ _ _ _ (by decide), fa, m_uN _ _ _ _ (by decide)]; exact e2
    have b3 : Fb 3 = (s : Int) := by rw [fb, m_uN _ _ _ _ (by decide), fa, m_uE]; exact e2
    have b1 : Fb 1 = (n : Int) := by rw [fb, m_uN _ _ _ _ (by decide), fa, m_uN _ _ _ _ (by decide)]; exact e1
    have b5 : Fb 5 = -1 := by rw [fb, m_uE]
    have bo : ∀ K, K ≠ 2 → K ≠ 3 → K ≠ 5 → Fb K = F K := fun K h2 h3 h5 => by rw [fb, m_uN _ _ _ _ h5, fa, m_uN _ _ _ _ h3]; exact oo K h2
    have bS : (Fb 2).toNat = s := by omega
    refine c_isl q8 (fun z hz => s_nt104 (z := z.toInt) Mb rfl rfl (by omega) (by omega) (fun x2 q2 c0 _ _ _ _ => ?_) (fun c1 => ?_))
    · have ha := (hz.resolve_left (fun y => by omega)).2
      rw [bS] at q2
      refine c_isd q2 (fun y hy => s_nt126 (z := y.toInt) Mb rfl rfl (by omega) (by omega) (d_subm hw (by decide +kernel)) (fun h4 F4 f4 h9 F9 f9 M9 c0 _ _ _ _ c59 => ?_) (fun h4 F4 f4 h9 F9 f9 M9 c0 _ _ _ _ c59 => ?_) (fun c1 => ?_))
      · have hd := (hy.resolve_left (fun y => by omega)).2
        rw [bS] at c59
        rw [rd_tk3 hs (by omega) ha hd, if_neg c59] at g
        exact g h9 F9 M9 (by rw [f9, m_uN _ _ _ _ (by decide), f4, m_uN _ _ _ _ (by decide)]; exact b2) (by rw [f9, m_uN _ _ _ _ (by decide), f4, m_uE, b2]; show _ = ((s + 1 : Nat) : Int); omega) (by rw [f9, m_uE]; rfl) (fun y => by rw [f9, m_uE] at y; omega) (fun K k2 k3 k4 k5 => by rw [f9, m_uN _ _ _ _ k4, f4, m_uN _ _ _ _ k3]; exact bo K k2 k3 k5)
      · have hd := (hy.resolve_left (fun y => by omega)).2
        rw [bS] at c59
        rw [rd_tk3 hs (by omega) ha hd, if_pos c59] at g
        exact g h9 F9 M9 (by rw [f9, m_uN _ _ _ _ (by decide), f4, m_uN _ _ _ _ (by decide)]; exact b2) (by rw [f9, m_uN _ _ _ _ (by decide), f4, m_uE, b2]; show _ = ((s + 1 : Nat) : Int); omega) (by rw [f9, m_uE]; rfl) (fun y => by rw [f9, m_uE] at y; omega) (fun K k2 k3 k4 k5 => by rw [f9, m_uN _ _ _ _ k4, f4, m_uN _ _ _ _ k3]; exact bo K k2 k3 k5)
      · have hd := (hy.resolve_right (fun y => by omega)).2
        rw [rd_tk2 hs (by omega) ha hd] at g
        exact c_rdn Mb hw b1 b2 b3 (by omega) hd (fun h' F' M' g3 g4 g5 o => s_nt133 (g h' F' M' (by rw [o 2 (by decide) (by decide) (by decide)]; exact b2) g3 g4 (fun y => g5 (y.elim (fun y => by rw [g4] at y; split at y <;> omega) id)) (fun K k2 k3 k4 k5 => by rw [o K k3 k4 k5]; exact bo K k2 k3 k5)))
    · have ha := (hz.resolve_right (fun y => by omega)).2
      rw [rd_tk1 hs (by omega) ha] at g
      exact c_rdw Mb hw tl b1 b2 b3 (by omega) n6 b5 (fun h' F' M' g3 g4 g5 o => s_nt111 (g h' F' M' (by rw [o 2 (by decide) (by decide) (by decide)]; exact b2) g3 g4 (fun _ => g5) (fun K k2 k3 k4 k5 => by rw [o K k3 k4 k5]; exact bo K k2 k3 k5)))
  · have es : rd_tk (V 0) n p = (s, (s, (0, -1))) := by
      rw [← hs]
      exact rd_tk0 (by omega)
    rw [es] at g
    exact g hc Fc Mc (by rw [fc, m_uN _ _ _ _ (by decide), fb, m_uN _ _ _ _ (by decide), fa, m_uN _ _ _ _ (by decide)]; exact e2) (by rw [fc, m_uN _ _ _ _ (by decide), fb, m_uN _ _ _ _ (by decide), fa, m_uE]; exact e2) (by rw [fc, m_uE]; rfl) (fun y => by rw [fc, m_uE] at y; omega) (fun K k2 k3 k4 k5 => by rw [fc, m_uN _ _ _ _ k4, fb, m_uN _ _ _ _ k5, fa, m_uN _ _ _ _ k3]; exact oo K k2)
end
end
section
-- NAMES TOLD
section
variable {i pc pc' : Nat} {lv : List (Nat × Value)} {st : List Value} {h : MH} {Q : Option Value → MH → Prop}
theorem hM_ivS {idx nest j o : Nat} {as r st0 : List Value} (a : m_at i pc = some (.invokevirtual idx, 3)) (hm : m_ml i idx = some (nest, j)) (hok : k_ok 1 i j = true) (hcl : (m_m j).2.1.cls = "java/lang/String") (hna : m_na j = as.length) (hst : st0 = as.reverse ++ (.ref o :: r)) (hc : Nat.ble (m_cat r) 8 = true) (hca : Nat.ble (m_cat (.ref o :: as)) (m_lc j) = true) (k40 : (h_k h o).1 = 40) (hp : pc + 3 = pc') (g : HJ j 0 (lv_args 0 (.ref o :: as)) [] h (fun v h' => HJ i pc' lv (v.toList ++ r) h' Q)) : HJ i pc lv st0 h Q := by
  subst hp hst
  obtain ⟨⟨k1, k2, k3, k4⟩, k5⟩ := of_decide_eq_true hok
  have e1 : (as.reverse ++ Value.ref o :: r).drop (m_na j) = .ref o :: r := by
    rw [hna, ← List.length_reverse]
    exact List.drop_left
  have e2 : (as.reverse ++ Value.ref o :: r).take (m_na j) = as.reverse := by
    rw [hna, ← List.length_reverse]
    exact List.take_left
  refine HJ.call (j := j) (as := .ref o :: as) (rr := r) (pc' := pc + 3) ((m_stx a (Or.inl rfl)).trans ?_) (Nat.le_of_ble_eq_true hca) g
  show e_call 1 i idx pc lv _ h = _
  unfold e_call
  rw [hm]
  dsimp only
  rw [if_neg k1, if_neg k2, if_neg k3, if_neg k4, if_pos k5, if_neg (by decide), e1, e2]
  dsimp only
  rw [if_pos, List.reverse_reverse]
  refine ⟨by rw [hna, List.length_append, List.length_reverse, List.length_cons]; omega, Nat.le_of_ble_eq_true hc, ?_⟩
  rw [if_pos hcl]
  exact k40
theorem hI_gs1 {idx : Nat} (a : m_at i pc = some (.getstatic idx, 3)) (hs : m_sf i idx = some 1) (hp : pc + 3 = pc') (g : HJ i pc' lv (.int 1 :: st) h Q) : HJ i pc lv st h Q := by
  subst hp
  refine HJ.ex a (Or.inl rfl) ?_ g
  show e_gets i idx pc lv st h = _
  unfold e_gets
  rw [hs]
  rfl
theorem hI_gs3 {idx : Nat} (a : m_at i pc = some (.getstatic idx, 3)) (hs : m_sf i idx = some 3) (hp : pc + 3 = pc') (g : HJ i pc' lv (.ref 15 :: st) h Q) : HJ i pc lv st h Q := by
  subst hp
  refine HJ.ex a (Or.inl rfl) ?_ g
  show e_gets i idx pc lv st h = _
  unfold e_gets
  rw [hs]
  rfl
theorem hI_i2c {x : Int32} (a : m_at i pc = some (.i2c, 1)) (hp : pc + 1 = pc') (g : HJ i pc' lv (.int (x.toUInt32 % 65536).toInt32 :: st) h Q) : HJ i pc lv (.int x :: st) h Q := by
  subst hp
  exact HJ.ex a (Or.inl rfl) rfl g
end
theorem i_2c (x : Int32) (h0 : 0 ≤ x.toInt) (h1 : x.toInt ≤ 255) : (x.toUInt32 % 65536).toInt32 = x := by
  have e2 : x.toInt = x.toBitVec.toInt := rfl
  have h4 := BitVec.toInt_eq_toNat_cond x.toBitVec
  have h5 := x.toBitVec.isLt
  have h3 : x.toBitVec.toNat < 65536 := by split at h4 <;> omega
  have h6 : x.toUInt32.toNat = x.toBitVec.toNat := rfl
  have h7 : x.toUInt32 % 65536 = x.toUInt32 := by
    apply UInt32.toNat_inj.mp
    rw [UInt32.toNat_mod, h6]
    exact Nat.mod_eq_of_lt h3
  rw [h7]
  rfl
-- a name as it stands: its bytes
section
variable {h : MH} {Q : Option Value → MH → Prop} {o v : Nat} {l : List Int}
theorem c_cod (k40 : (h_k h o).1 = 40) (c0 : h_i h o 1 = 0) (g : Q (some (.int 0)) h) : HJ 22 0 (lv_args 0 [.ref o]) [] h Q := by
  refine hI_gs1 rfl rfl rfl ?_
  refine hI_if (c := .eq) (off := 10) (t := 13) rfl (by decide) rfl (fun c => absurd (show Int32.toInt 1 = 0 from c) (by decide)) (fun _ => ?_)
  refine hI_al (k := 0) rfl rfl rfl ?_
  refine hI_gi (c := 39) (k := 1) rfl rfl rfl k40 rfl ?_
  rw [c0]
  refine hI_go (pc' := 14) rfl (by decide) ?_
  exact hI_ri rfl (by decide) g
theorem c_lat (k40 : (h_k h o).1 = 40) (c0 : h_i h o 1 = 0) (g : Q (some (.int 1)) h) : HJ 24 0 (lv_args 0 [.ref o]) [] h Q := by
  refine hI_gs1 rfl rfl rfl ?_
  refine hI_if (c := .eq) (off := 14) (t := 17) rfl (by decide) rfl (fun c => absurd (show Int32.toInt 1 = 0 from c) (by decide)) (fun _ => ?_)
  refine hI_al (k := 0) rfl rfl rfl ?_
  refine hI_gi (c := 39) (k := 1) rfl rfl rfl k40 rfl ?_
  rw [c0]
  refine hI_if (c := .ne) (off := 7) (t := 17) rfl (by decide) rfl (fun c => absurd rfl c) (fun _ => ?_)
  refine hI_ic (n := 1) rfl rfl ?_
  refine hI_go (pc' := 18) rfl (by decide) ?_
  exact hI_ri rfl (by decide) g
theorem i_sh0 (x : Int32) : x >>> ((0 : Int32) &&& 31) = x := by
  rw [show ((0 : Int32) &&& 31) = 0 by decide]
  apply Int32.toBitVec_inj.mp
  show x.toBitVec.sshiftRight ((0 : Int32).toBitVec.smod 32).toNat = x.toBitVec
  rw [show ((0 : Int32).toBitVec.smod 32).toNat = 0 by decide, BitVec.sshiftRight_zero]
theorem c_sln (N : nm_ok h o v l) (g : ∀ x : Int32, x.toInt = (l.length : Int) → Q (some (.int x)) h) : HJ 21 0 (lv_args 0 [.ref o]) [] h Q := by
  obtain ⟨n1, n2, n3, n4, n5, -⟩ := N
  refine hI_al (k := 0) rfl rfl rfl ?_
  refine hI_gr (c := 39) (k := 0) rfl rfl rfl n1 rfl ?_
  rw [n2]
  refine hI_len rfl (by rw [n4]; show 20 ≤ 21 ∧ 21 < 34; decide) rfl ?_
  rw [n4]
  refine hI_al (k := 0) rfl rfl rfl ?_
  refine hM_ivS (o := o) (as := []) (r := [.int (Int32.ofNat l.length)]) rfl rfl (by decide +kernel) rfl rfl rfl rfl rfl n1 rfl ?_
  refine c_cod n1 n3 ?_
  refine hI_ishr rfl rfl ?_
  rw [i_sh0]
  refine hI_ri rfl rfl (g _ ?_)
  rw [Int32.toInt_ofNat_of_lt (by omega)]
theorem c_chk {x y : Int32} {r : Nat} (h0 : 0 ≤ x.toInt) (h1 : x.toInt < y.toInt) (g : Q (some (.int x)) h) : HJ 27 0 (lv_args 0 [.int x, .int y, .ref r]) [] h Q := by
  refine hI_il (k := 0) rfl rfl rfl ?_
  refine hM_zlt (off := 8) (t := 9) rfl rfl (by decide) rfl (fun c => by omega) (fun _ => ?_)
  refine hI_il (k := 0) rfl rfl rfl ?_
  refine hI_il (k := 1) rfl rfl rfl ?_
  refine hM_clt (off := 10) (t := 16) rfl rfl rfl (by decide) rfl (fun _ => ?_) (fun c => by omega)
  refine hI_il (k := 0) rfl rfl rfl ?_
  exact hI_ri rfl rfl g
theorem c_cka {x y : Int32} (h0 : 0 ≤ x.toInt) (h1 : x.toInt < y.toInt) (g : Q none h) : HJ 26 0 (lv_args 0 [.int x, .int y]) [] h Q := by
  refine hI_il (k := 0) rfl rfl rfl ?_
  refine hI_il (k := 1) rfl rfl rfl ?_
  refine hI_gs3 rfl rfl rfl ?_
  refine hM_is0 (as := [.int x, .int y, .ref 15]) (r := []) rfl rfl (by decide +kernel) rfl rfl rfl rfl rfl ?_
  refine c_chk h0 h1 ?_
  refine hI_pop rfl rfl rfl ?_
  exact hI_rv rfl rfl g
theorem c_cat {x : Int32} {j : Nat} (N : nm_ok h o v l) (qx : x.toInt = (j : Int)) (jl : j < l.length) (g : ∀ y : Int32, y.toInt = l.getD j 0 → Q (some (.int y)) h) : HJ 23 0 (lv_args 0 [.ref o, .int x]) [] h Q := by
  obtain ⟨n1, n2, n3, n4, n5, n6⟩ := N
  obtain ⟨b0, b1, b2⟩ := n6 j jl
  have eL : (Int32.ofNat l.length).toInt = (l.length : Int) := by
    rw [Int32.toInt_ofNat_of_lt (by omega)]
  have hj : x.toInt.toNat = j := by omega
  refine hI_al (k := 0) rfl rfl rfl ?_
  refine hM_ivS (o := o) (as := []) (r := []) rfl rfl (by decide +kernel) rfl rfl rfl rfl rfl n1 rfl ?_
  refine c_lat n1 n3 ?_
  refine hI_if (c := .eq) (off := 12) (t := 16) rfl (by decide) rfl (fun c => absurd (show Int32.toInt 1 = 0 from c) (by decide)) (fun _ => ?_)
  refine hI_al (k := 0) rfl rfl rfl ?_
  refine hI_gr (c := 39) (k := 0) rfl rfl rfl n1 rfl ?_
  rw [n2]
  refine hI_il (k := 1) rfl rfl rfl ?_
  refine hM_is0 (as := [.ref v, .int x]) (r := []) rfl rfl (by decide +kernel) rfl rfl rfl rfl rfl ?_
  refine hI_il (k := 1) rfl rfl rfl ?_
  refine hI_al (k := 0) rfl rfl rfl ?_
  refine hI_len rfl (by rw [n4]; show 20 ≤ 21 ∧ 21 < 34; decide) rfl ?_
  rw [n4]
  refine hM_is0 (as := [.int x, .int (Int32.ofNat l.length)]) (r := []) rfl rfl (by decide +kernel) rfl rfl rfl rfl rfl ?_
  refine c_cka (by omega) (by omega) ?_
  refine hI_al (k := 0) rfl rfl rfl ?_
  refine hI_il (k := 1) rfl rfl rfl ?_
  refine hI_ba rfl (by rw [n4]; exact Or.inl rfl) (by omega) (by rw [n4]; show x.toInt < (l.length : Int); omega) rfl ?_
  rw [hj]
  refine hM_sp (n := 255) rfl (by decide) rfl (fun w qw => ?_)
  refine hM_iand255 rfl b0 qw rfl (fun y qy => ?_)
  have qy2 : y.toInt = l.getD j 0 := by omega
  refine hI_i2c rfl rfl ?_
  rw [i_2c y (by omega) (by omega)]
  have rok : ∀ k : Nat, m_rt k = some .char → m_rok (m_rt k) y = true := fun k e => by
    rw [e]
    exact decide_eq_true (i_char y (by omega) (by omega))
  refine hI_ri rfl (rok 25 rfl) ?_
  exact hI_ri rfl (rok 23 rfl) (g y qy2)
end
section
variable {lv : List (Nat × Value)} {Q : Option Value → MH → Prop} {W : List (Nat × Nat)} {ρ : Nat → Nat} {m : Nat} {A : Nat → Nat} {h0 h : MH} {F : Nat → Int} {V : Nat → Nat → Int} {G : Nat → Nat → Int64}
theorem s_te0 (M : MX 106 W ρ m A h0 h F V G) (e0 : m_lk lv 0 = some (.ref m)) {nm : Nat} (e1 : m_lk lv 1 = some (.ref nm)) (hk_nm : (h_k h nm).1 = 40) 
    (g0 : HJ 21 0 (lv_args 0 [.ref nm]) [] h (fun v h' => HJ 20 4 lv (v.toList ++ []) h' Q))
    : HJ 20 0 lv [] h Q := by
  refine hI_al (k := 1) rfl e1 rfl ?_ -- 0
  refine hM_ivS (o := nm) (as := []) (r := []) rfl rfl (by decide +kernel) rfl rfl rfl rfl rfl hk_nm rfl ?_ -- 1
  exact g0 
theorem s_te4 {L : Int} (M : MX 106 W ρ m A h0 h F V G) (e0 : m_lk lv 0 = some (.ref m)) {nm : Nat} (e1 : m_lk lv 1 = some (.ref nm)) (hk_nm : (h_k h nm).1 = 40) {sx0 : Int32} (sq0 : sx0.toInt = L) 
    (g0 : ∀ x4 : Int32, x4.toInt = 0 → ∀ x6 : Int32, x6.toInt = 0 → ∀ lv7 : List (Nat × Value), m_lk lv7 0 = some (.ref m) → m_lk lv7 1 = some (.ref nm) → m_lk lv7 2 = some (.int x4) → m_lk lv7 3 = some (.int x6) → 0 ≤ F 3 → F 3 ≤ 600 → 0 ≤ F 2 → F 2 ≤ 600 → L ≠ (F 3) - (F 2) → HJ 20 24 lv7 [] h Q)
    (g1 : ∀ x8 : Int32, x8.toInt = 1 → ∀ x10 : Int32, x10.toInt = 0 → ∀ lv11 : List (Nat × Value), m_lk lv11 0 = some (.ref m) → m_lk lv11 1 = some (.ref nm) → m_lk lv11 2 = some (.int x8) → m_lk lv11 3 = some (.int x10) → 0 ≤ F 3 → F 3 ≤ 600 → 0 ≤ F 2 → F 2 ≤ 600 → L = (F 3) - (F 2) → HJ 20 24 lv11 [] h Q)
    : HJ 20 4 lv [.int sx0] h Q := by
  refine hI_al (k := 0) rfl e0 rfl ?_ -- 4
  refine hM_gi M (by decide) rfl rfl rfl (k := 3) (c := 4) (lo := 0) (hi := 600) rfl rfl rfl rfl rfl (fun x1 q1 a1 b1 => ?_) -- 5
  refine hI_al (k := 0) rfl e0 rfl ?_ -- 8
  refine hM_gi M (by decide) rfl rfl rfl (k := 2) (c := 4) (lo := 0) (hi := 600) rfl rfl rfl rfl rfl (fun x2 q2 a2 b2 => ?_) -- 9
  refine hM_sub rfl q1 q2 (by omega) (by omega) rfl (fun x3 q3 => ?_) -- 12
  refine hM_cne (off := 7) (t := 20) rfl sq0 q3 (by decide) rfl (fun c13 => ?_) (fun c13 => ?_) -- 13
  · refine hM_ic (n := 0) rfl (by decide) rfl (fun x4 q4 => ?_) -- 20
    refine hM_si (k := 2) rfl (by decide +kernel) rfl (fun lv5 e5_2 u5 => ?_) -- 21
    have e5_0 := u5 0 _ (by decide) (Or.inl rfl) e0
    have e5_1 := u5 1 _ (by decide) (Or.inl rfl) e1
    refine hM_ic (n := 0) rfl (by decide) rfl (fun x6 q6 => ?_) -- 22
    refine hM_si (k := 3) rfl (by decide +kernel) rfl (fun lv7 e7_3 u7 => ?_) -- 23
    have e7_0 := u7 0 _ (by decide) (Or.inl rfl) e5_0
    have e7_1 := u7 1 _ (by decide) (Or.inl rfl) e5_1
    have e7_2 := u7 2 _ (by decide) (Or.inl rfl) e5_2
    exact g0 x4 q4 x6 q6 lv7 e7_0 e7_1 e7_2 e7_3 a1 b1 a2 b2 c13
  · refine hM_ic (n := 1) rfl (by decide) rfl (fun x8 q8 => ?_) -- 16
    refine hI_go (pc' := 21) (off := 4) rfl (by decide) ?_ -- 17
    refine hM_si (k := 2) rfl (by decide +kernel) rfl (fun lv9 e9_2 u9 => ?_) -- 21
    have e9_0 := u9 0 _ (by decide) (Or.inl rfl) e0
    have e9_1 := u9 1 _ (by decide) (Or.inl rfl) e1
    refine hM_ic (n := 0) rfl (by decide) rfl (fun x10 q10 => ?_) -- 22
    refine hM_si (k := 3) rfl (by decide +kernel) rfl (fun lv11 e11_3 u11 => ?_) -- 23
    have e11_0 := u11 0 _ (by decide) (Or.inl rfl) e9_0
    have e11_1 := u11 1 _ (by decide) (Or.inl rfl) e9_1
    have e11_2 := u11 2 _ (by decide) (Or.inl rfl) e9_2
    exact g1 x8 q8 x10 q10 lv11 e11_0 e11_1 e11_2 e11_3 a1 b1 a2 b2 c13
theorem s_te24 {l i : Int} (M : MX 106 W ρ m A h0 h F V G) (e0 : m_lk lv 0 = some (.ref m)) {nm : Nat} (e1 : m_lk lv 1 = some (.ref nm)) (hk_nm : (h_k h nm).1 = 40) {lx2 : Int32} (e2 : m_lk lv 2 = some (.int lx2)) (lq2 : lx2.toInt = l) {lx3 : Int32} (e3 : m_lk lv 3 = some (.int lx3)) (lq3 : lx3.toInt = i) (l0 : 0 ≤ l) (l1 : l ≤ 1)
    (g0 : l = 0 → Q (some (.int lx2)) h)
    (g1 : l ≠ 0 → HJ 21 0 (lv_args 0 [.ref nm]) [] h (fun v h' => HJ 20 33 lv (v.toList ++ [.int lx3]) h' Q))
    : HJ 20 24 lv [] h Q := by
  refine hI_il (k := 2) rfl e2 rfl ?_ -- 24
  refine hM_zeq (off := 42) (t := 67) rfl lq2 (by decide) rfl (fun c25 => ?_) (fun c25 => ?_) -- 25
  · refine hI_il (k := 2) rfl e2 rfl ?_ -- 67
    refine hM_rb rfl rfl lq2 (by omega) (by omega) ?_ -- 68
    exact g0 c25
  · refine hI_il (k := 3) rfl e3 rfl ?_ -- 28
    refine hI_al (k := 1) rfl e1 rfl ?_ -- 29
    refine hM_ivS (o := nm) (as := []) (r := [.int lx3]) rfl rfl (by decide +kernel) rfl rfl rfl rfl rfl hk_nm rfl ?_ -- 30
    exact g1 c25
theorem s_te33 {l i L : Int} (M : MX 106 W ρ m A h0 h F V G) (e0 : m_lk lv 0 = some (.ref m)) {nm : Nat} (e1 : m_lk lv 1 = some (.ref nm)) (hk_nm : (h_k h nm).1 = 40) {lx2 : Int32} (e2 : m_lk lv 2 = some (.int lx2)) (lq2 : lx2.toInt = l) {lx3 : Int32} (e3 : m_lk lv 3 = some (.int lx3)) (lq3 : lx3.toInt = i) {sx0 : Int32} (sq0 : sx0.toInt = i) {sx1 : Int32} (sq1 : sx1.toInt = L) (l0 : 0 ≤ l) (l1 : l ≤ 1) (i0 : 0 ≤ i) (i1 : i < L → F 2 + i ≤ 599)
    (g0 : i ≥ L → Q (some (.int lx2)) h)
    (g1 : ∀ x3 : Int32, x3.toInt = V 0 ((F 2) + i).toNat → i < L → 0 ≤ F 2 → F 2 ≤ 600 → (-128) ≤ V 0 ((F 2) + i).toNat → V 0 ((F 2) + i).toNat ≤ 127 → HJ 23 0 (lv_args 0 [.ref nm, .int lx3]) [] h (fun v h' => HJ 20 52 lv (v.toList ++ [.int x3]) h' Q))
    : HJ 20 33 lv [.int sx1, .int sx0] h Q := by
  refine hM_cge (off := 34) (t := 67) rfl sq0 sq1 (by decide) rfl (fun c33 => ?_) (fun c33 => ?_) -- 33
  · refine hI_il (k := 2) rfl e2 rfl ?_ -- 67
    refine hM_rb rfl rfl lq2 (by omega) (by omega) ?_ -- 68
    exact g0 c33
  · refine hI_al (k := 0) rfl e0 rfl ?_ -- 36
    refine hM_ga M (by decide) rfl rfl (k := 0) (c := 4) rfl rfl rfl (by decide +kernel) rfl ?_ -- 37
    refine hI_al (k := 0) rfl e0 rfl ?_ -- 40
    refine hM_gi M (by decide) rfl rfl rfl (k := 2) (c := 4) (lo := 0) (hi := 600) rfl rfl rfl rfl rfl (fun x1 q1 a1 b1 => ?_) -- 41
    refine hI_il (k := 3) rfl e3 rfl ?_ -- 44
    refine hM_add rfl q1 lq3 (by omega) (by omega) rfl (fun x2 q2 => ?_) -- 45
    refine hM_ba M (by decide) (K := 0) (R2 := 13) (L := 600) (H := 600) (lo := (-128)) (hi := 127) rfl (by decide) rfl rfl (Or.inl rfl) (fun _ => rfl) rfl q2 (by omega) (by omega) rfl (fun x3 q3 a3 b3 => ?_) -- 46
    refine hI_al (k := 1) rfl e1 rfl ?_ -- 47
    refine hI_il (k := 3) rfl e3 rfl ?_ -- 48
    refine hM_ivS (o := nm) (as := [.int lx3]) (r := [.int x3]) rfl rfl (by decide +kernel) rfl rfl rfl rfl rfl hk_nm rfl ?_ -- 49
    exact g1 x3 q3 c33 a1 b1 a3 b3
theorem s_te52 {l i t c : Int} (M : MX 106 W ρ m A h0 h F V G) (e0 : m_lk lv 0 = some (.ref m)) {nm : Nat} (e1 : m_lk lv 1 = some (.ref nm)) (hk_nm : (h_k h nm).1 = 40) {lx2 : Int32} (e2 : m_lk lv 2 = some (.int lx2)) (lq2 : lx2.toInt = l) {lx3 : Int32} (e3 : m_lk lv 3 = some (.int lx3)) (lq3 : lx3.toInt = i) {sx0 : Int32} (sq0 : sx0.toInt = t) {sx1 : Int32} (sq1 : sx1.toInt = c) (i0 : 0 ≤ i) (i1 : i ≤ 600)
    (g0 : ∀ x1 : Int32, x1.toInt = 0 → ∀ x3 : Int32, x3.toInt = i + 1 → ∀ lv3 : List (Nat × Value), m_lk lv3 0 = some (.ref m) → m_lk lv3 1 = some (.ref nm) → m_lk lv3 2 = some (.int x1) → m_lk lv3 3 = some (.int x3) → t ≠ c → HJ 20 24 lv3 [] h Q)
    (g1 : ∀ x4 : Int32, x4.toInt = 1 → ∀ x6 : Int32, x6.toInt = i + 1 → ∀ lv6 : List (Nat × Value), m_lk lv6 0 = some (.ref m) → m_lk lv6 1 = some (.ref nm) → m_lk lv6 2 = some (.int x4) → m_lk lv6 3 = some (.int x6) → t = c → HJ 20 24 lv6 [] h Q)
    : HJ 20 52 lv [.int sx1, .int sx0] h Q := by
  refine hM_cne (off := 7) (t := 59) rfl sq0 sq1 (by decide) rfl (fun c52 => ?_) (fun c52 => ?_) -- 52
  · refine hM_ic (n := 0) rfl (by decide) rfl (fun x1 q1 => ?_) -- 59
    refine hM_si (k := 2) rfl (by decide +kernel) rfl (fun lv2 e2_2 u2 => ?_) -- 60
    have e2_0 := u2 0 _ (by decide) (Or.inl rfl) e0
    have e2_1 := u2 1 _ (by decide) (Or.inl rfl) e1
    have e2_3 := u2 3 _ (by decide) (Or.inl rfl) e3
    refine hM_inc (k := 3) (z := 1) rfl e2_3 lq3 (by decide) (by omega) (by omega) (by decide +kernel) rfl (fun lv3 x3 q3 e3_3 u3 => ?_) -- 61
    have e3_0 := u3 0 _ (by decide) (Or.inl rfl) e2_0
    have e3_1 := u3 1 _ (by decide) (Or.inl rfl) e2_1
    have e3_2 := u3 2 _ (by decide) (Or.inl rfl) e2_2
    refine hI_go (pc' := 24) (off := (-40)) rfl (by decide) ?_ -- 64
    exact g0 x1 q1 x3 q3 lv3 e3_0 e3_1 e3_2 e3_3 c52
  · refine hM_ic (n := 1) rfl (by decide) rfl (fun x4 q4 => ?_) -- 55
    refine hI_go (pc' := 60) (off := 4) rfl (by decide) ?_ -- 56
    refine hM_si (k := 2) rfl (by decide +kernel) rfl (fun lv5 e5_2 u5 => ?_) -- 60
    have e5_0 := u5 0 _ (by decide) (Or.inl rfl) e0
    have e5_1 := u5 1 _ (by decide) (Or.inl rfl) e1
    have e5_3 := u5 3 _ (by decide) (Or.inl rfl) e3
    refine hM_inc (k := 3) (z := 1) rfl e5_3 lq3 (by decide) (by omega) (by omega) (by decide +kernel) rfl (fun lv6 x6 q6 e6_3 u6 => ?_) -- 61
    have e6_0 := u6 0 _ (by decide) (Or.inl rfl) e5_0
    have e6_1 := u6 1 _ (by decide) (Or.inl rfl) e5_1
    have e6_2 := u6 2 _ (by decide) (Or.inl rfl) e5_2
    refine hI_go (pc' := 24) (off := (-40)) rfl (by decide) ?_ -- 64
    exact g1 x4 q4 x6 q6 lv6 e6_0 e6_1 e6_2 e6_3 c52
theorem l_te {s b o v : Nat} {l : List Int} (N : nm_ok h o v l) (M : MX 106 W ρ m A h0 h F V G) (q2 : F 2 = (s : Int)) (b6 : b ≤ 600) (eb : b = s + l.length) (g : ∀ z : Int32, (z.toInt = 1 ∧ rd_is (V 0) s b l) ∨ (z.toInt = 0 ∧ ¬ rd_is (V 0) s b l) → Q (some (.int z)) h) : ∀ (d i : Nat) (lv : List (Nat × Value)) (xl xi : Int32), i + d = l.length → xl.toInt = 1 → xi.toInt = (i : Int) → (∀ j, j < i → V 0 (s + j) = l.getD j 0) → m_lk lv 0 = some (.ref m) → m_lk lv 1 = some (.ref o) → m_lk lv 2 = some (.int xl) → m_lk lv 3 = some (.int xi) → HJ 20 24 lv [] h Q := by
  intro d
  induction d with
  | zero =>
    intro i lv xl xi hd ql qi hj e0 e1 e2 e3
    exact s_te24 M e0 e1 N.1 e2 ql e3 qi (by omega) (by omega) (fun c => by omega) (fun _ => c_sln N (fun y qy => s_te33 M e0 e1 N.1 e2 ql e3 qi qi qy (by omega) (by omega) (by omega) (fun c => by omega) (fun _ => g xl (Or.inl ⟨ql, rd_isT.mpr ⟨eb, fun j hj2 => hj j (by omega)⟩⟩)) (fun _ _ c _ _ _ _ => by omega)))
  | succ d ih =>
    intro i lv xl xi hd ql qi hj e0 e1 e2 e3
    have hS : (F 2 + (i : Int)).toNat = s + i := by omega
    refine s_te24 M e0 e1 N.1 e2 ql e3 qi (by omega) (by omega) (fun c => by omega) (fun _ => c_sln N (fun y qy => s_te33 M e0 e1 N.1 e2 ql e3 qi qi qy (by omega) (by omega) (by omega) (fun c => by omega) (fun c => by omega) (fun x3 q3 c _ _ _ _ => c_cat N qi (by omega) (fun w qw => s_te52 M e0 e1 N.1 e2 ql e3 qi q3 qw (by omega) (by omega) (fun x1 p1 x4 p4 lv3 d0 d1 d2 d3 cne => ?_) (fun x1 p1 x4 p4 lv3 d0 d1 d2 d3 ceq => ?_)))))
    · rw [hS] at cne
      exact s_te24 M d0 d1 N.1 d2 p1 d3 p4 (by omega) (by omega) (fun _ => g x1 (Or.inr ⟨p1, fun z => cne ((rd_isT.mp z).2 i (by omega))⟩)) (fun c => by omega)
    · rw [hS] at ceq
      exact ih (i + 1) lv3 x1 x4 (by omega) p1 (by omega) (fun j hj2 => by
        by_cases e : j = i
        · rw [e]; exact ceq
        · exact hj j (by omega)) d0 d1 d2 d3
theorem c_tells {s b o v : Nat} {l : List Int} (N : nm_ok h o v l) (M : MX 106 W ρ m A h0 h F V G) (q2 : F 2 = (s : Int)) (q3 : F 3 = (b : Int)) (sb : s ≤ b) (b6 : b ≤ 600) (g : ∀ z : Int32, (z.toInt = 1 ∧ rd_is (V 0) s b l) ∨ (z.toInt = 0 ∧ ¬ rd_is (V 0) s b l) → Q (some (.int z)) h) : HJ 20 0 (lv_args 0 [.ref m, .ref o]) [] h Q :=
  s_te0 M rfl rfl N.1 (c_sln N (fun y qy => s_te4 M rfl rfl N.1 qy (fun x4 q4 x6 q6 lv7 d0 d1 d2 d3 _ _ _ _ cne => s_te24 M d0 d1 N.1 d2 q4 d3 q6 (by omega) (by omega) (fun _ => g x4 (Or.inr ⟨q4, fun z => by have := (rd_isT.mp z).1; omega⟩)) (fun c => by omega)) (fun x4 q4 x6 q6 lv7 d0 d1 d2 d3 _ _ _ _ ceq => l_te N M q2 b6 (by omega) g l.length 0 lv7 x4 x6 (by omega) q4 q6 (fun j hj => absurd hj (Nat.not_lt_zero j)) d0 d1 d2 d3)))
-- all names, where they stand
theorem c_nameOf {k : Nat} {x : Int32} (hk : k < 6) (qx : x.toInt = (k : Int)) (g : Q (some (.ref (2 + k))) h) : HJ 19 0 (lv_args 0 [.int x]) [] h Q := by
  have ex : x = Int32.ofNat k := Int32.toInt_inj.mp (by
    rw [qx, Int32.toInt_ofNat_of_lt (by omega)])
  subst ex
  refine hI_il (k := 0) rfl rfl rfl ?_
  rcases (show k = 0 ∨ k = 1 ∨ k = 2 ∨ k = 3 ∨ k = 4 ∨ k = 5 by omega) with rfl | rfl | rfl | rfl | rfl | rfl
  · exact HJ.ex (pc' := 36) rfl (Or.inr rfl) rfl (HJ.ex (pc' := 38) rfl (Or.inl rfl) rfl (hI_ra rfl rfl g))
  · exact HJ.ex (pc' := 39) rfl (Or.inr rfl) rfl (HJ.ex (pc' := 41) rfl (Or.inl rfl) rfl (hI_ra rfl rfl g))
  · exact HJ.ex (pc' := 42) rfl (Or.inr rfl) rfl (HJ.ex (pc' := 44) rfl (Or.inl rfl) rfl (hI_ra rfl rfl g))
  · exact HJ.ex (pc' := 45) rfl (Or.inr rfl) rfl (HJ.ex (pc' := 47) rfl (Or.inl rfl) rfl (hI_ra rfl rfl g))
  · exact HJ.ex (pc' := 48) rfl (Or.inr rfl) rfl (HJ.ex (pc' := 50) rfl (Or.inl rfl) rfl (hI_ra rfl rfl g))
  · exact HJ.ex (pc' := 51) rfl (Or.inr rfl) rfl (HJ.ex (pc' := 53) rfl (Or.inl rfl) rfl (hI_ra rfl rfl g))
-- names stay, for what stands below 16 and is no made thing stays
theorem sb_fs {W : List (Nat × Nat)} {ρ : Nat → Nat} {h h' : MH} (hr : ∀ k, k < 6 → ρ (2 + k) = 2 ∧ ρ (8 + k) = 3) (hn : d_no [(2, 1001), (2, 1002), (3, 1001), (3, 1002)] W = true) (f : FS ρ W h h') (s : sb_ok h) : sb_ok h' := fun k hk => by
  obtain ⟨n1, n2, n3, n4, n5, n6⟩ := s k hk
  obtain ⟨r1, r2⟩ := hr k hk
  have e1 := f.2 (2 + k) (by omega)
  have e2 := f.2 (8 + k) (by omega)
  have w1 : ∀ j, ¬ t_W W (ρ (2 + k)) j ∨ j = 1002 := fun j => by
    rw [r1]
    exact d_noE hn (List.mem_of_getElem? (i := 0) rfl)
  have w2 : ∀ j, ¬ t_W W (ρ (8 + k)) j ∨ j = 1002 := fun j => by
    rw [r2]
    exact d_noE hn (List.mem_of_getElem? (i := 2) rfl)
  refine ⟨by rw [e1.1]; exact n1, ?_, ?_, by rw [e2.1]; exact n4, n5, fun i hi => ⟨?_, (n6 i hi).2⟩⟩
  · rw [(e1.2 0 ((w1 0).resolve_right (by decide))).2.2]
    exact n2
  · rw [(e1.2 1 ((w1 1).resolve_right (by decide))).1]
    exact n3
  · rw [(e2.2 i ((w2 i).resolve_right (by omega))).1]
    exact (n6 i hi).1
theorem tl_mk (hr : ∀ k, k < 6 → ρ (2 + k) = 2 ∧ ρ (8 + k) = 3) (hn : d_no [(2, 1001), (2, 1002), (3, 1001), (3, 1002)] W = true) (s0 : sb_ok h0) : tl_ok W ρ m A h0 V G := fun k s b h F xk lv Q M hk qk q2 q3 sb b6 g => by
  have N := sb_fs hr hn M.1.2.2 s0 k hk
  refine c_nameOf hk qk ?_
  show HJ 18 57 lv [.ref (2 + k), .ref m] h Q
  refine hM_iv M (by decide) rfl rfl (by decide) (as := [.ref (2 + k)]) (r := []) rfl rfl (by decide +kernel) rfl (by decide +kernel) rfl rfl rfl rfl rfl ?_
  exact c_tells N M q2 q3 sb b6 (fun z hz => g z hz)
end
end
section
-- THE CLASS'S LINES
theorem ok_103 : rg_okb 103 = true := by decide +kernel
section
variable {i pc pc' : Nat} {lv : List (Nat × Value)} {st : List Value} {h : MH} {Q : Option Value → MH → Prop}
theorem hI_gs2 {idx : Nat} (a : m_at i pc = some (.getstatic idx, 3)) (hs : m_sf i idx = some 2) (hp : pc + 3 = pc') (g : HJ i pc' lv (.ref 1 :: st) h Q) : HJ i pc lv st h Q := by
  subst hp
  refine HJ.ex a (Or.inl rfl) ?_ g
  show e_gets i idx pc lv st h = _
  unfold e_gets
  rw [hs]
  rfl
theorem hM_lim {j : Int32} {zj : Int} (L : lim_ok h) (a : m_at i pc = some (.iaload, 1)) (hj : j.toInt = zj) (b0 : 0 ≤ zj) (b1 : zj < 18) (hp : pc + 1 = pc') (g : ∀ x : Int32, x.toInt = lm_at zj.toNat → HJ i pc' lv (.int x :: st) h Q) : HJ i pc lv (.int j :: .ref 1 :: st) h Q := by
  refine hI_ia a (by rw [L.1]) (by omega) (by rw [L.1]; show j.toInt < ((18 : Nat) : Int); omega) hp ?_
  rw [hj]
  exact g _ (L.2 _ (by omega))
end
theorem lim_fs {W : List (Nat × Nat)} {ρ : Nat → Nat} {h h' : MH} (hr : ρ 1 = 1) (hn : d_no [(1, 1001), (1, 1002)] W = true) (f : FS ρ W h h') (L : lim_ok h) : lim_ok h' := by
  have e1 := f.2 1 (by omega)
  have w1 : ∀ j, ¬ t_W W (ρ 1) j ∨ j = 1002 := fun j => by
    rw [hr]
    exact d_noE hn (List.mem_of_getElem? (i := 0) rfl)
  exact ⟨by rw [e1.1]; exact L.1, fun j hj => by
    rw [(e1.2 j ((w1 j).resolve_right (by omega))).1]
    exact L.2 j hj⟩
theorem lm_lim {k i : Nat} (hk : k < 6) (hi : i < 3) : (lm_at (3 * k + i) = -1 ∧ (rd_lim (k : Int)).drop i = []) ∨ (lm_at (3 * k + i) ≠ -1 ∧ (rd_lim (k : Int)).drop i = lm_at (3 * k + i) :: (rd_lim (k : Int)).drop (i + 1)) := by
  rcases (show k = 0 ∨ k = 1 ∨ k = 2 ∨ k = 3 ∨ k = 4 ∨ k = 5 by omega) with rfl | rfl | rfl | rfl | rfl | rfl <;> rcases (show i = 0 ∨ i = 1 ∨ i = 2 by omega) with rfl | rfl | rfl <;> first | exact Or.inl ⟨by decide, rfl⟩ | exact Or.inr ⟨by decide, rfl⟩
theorem lm_3 {k : Nat} (hk : k < 6) : (rd_lim (k : Int)).drop 3 = [] := by
  rcases (show k = 0 ∨ k = 1 ∨ k = 2 ∨ k = 3 ∨ k = 4 ∨ k = 5 by omega) with rfl | rfl | rfl | rfl | rfl | rfl <;> rfl
-- what another object's run leaves as it is
def st_b (R : Nat) (W : List (Nat × Nat)) : Bool := W.all (fun q => !(Nat.beq q.1 R) && (List.range 80).all (fun K => !(Nat.beq q.1 (rg_a R K)) || Nat.beq (rg_a R K) 0))
theorem rg_80 {R K : Nat} (h : rg_a R K ≠ 0) : K < 80 := by
  obtain ⟨rs, hs, -⟩ := rg_aS h
  have h1 := rg_len hs h
  have h2 : ∀ rs ∈ c_sp, rs.2.2.2.length ≤ 80 := fun rs hm => of_decide_eq_true (List.all_eq_true.mp (show c_sp.all (fun rs => decide (rs.2.2.2.length ≤ 80)) = true by decide +kernel) rs hm)
  have := h2 rs (List.mem_of_getElem? hs)
  omega
theorem MX.stay {R : Nat} {W W1 : List (Nat × Nat)} {ρ : Nat → Nat} {m : Nat} {A : Nat → Nat} {h0 h h' : MH} {F : Nat → Int} {V : Nat → Nat → Int} {G : Nat → Nat → Int64} (M : MX R W ρ m A h0 h F V G) (hR : R ≠ 0) (ht : TH c_sp ρ h') (f : FS ρ W1 h h') (hs : d_sub W1 W = true) (hn : st_b R W1 = true) : MX R W ρ m A h0 h' F V G := by
  have n1 : W1.all (fun q => !(Nat.beq q.1 R)) = true := List.all_eq_true.mpr (fun q hq => by
    have := List.all_eq_true.mp hn q hq
    rw [Bool.and_eq_true] at this
    exact this.1)
  have n2 : ∀ K, rg_a R K ≠ 0 → W1.all (fun q => !(Nat.beq q.1 (rg_a R K))) = true := fun K hK => List.all_eq_true.mpr (fun q hq => by
    have := List.all_eq_true.mp hn q hq
    rw [Bool.and_eq_true] at this
    have := List.all_eq_true.mp this.2 K (List.mem_range.mpr (rg_80 hK))
    rw [Bool.or_eq_true] at this
    rcases this with z | z
    · exact z
    · exact absurd (Nat.eq_of_beq_eq_true z) hK)
  have hk : mx_keeps R W1 = true := List.all_eq_true.mpr (fun q hq => by
    rw [Bool.or_eq_true]
    exact Or.inl (List.all_eq_true.mp n1 q hq))
  obtain ⟨F', V', G', M', e1, e2⟩ := M.fs hR ht f hs hk
  refine ⟨M'.1, fun K => (M'.2.1 K).trans (e1 K (fun z => t_Wn9 n1 K z)), fun K hK => ⟨(M'.2.2 K hK).1, fun j => ?_⟩⟩
  obtain ⟨v1, v2⟩ := e2 K hK (fun j => t_Wn9 (n2 K hK) j)
  rw [← v1, ← v2]
  exact (M'.2.2 K hK).2 j
section
variable {R : Nat} {W W2 : List (Nat × Nat)} {ρ : Nat → Nat} {m : Nat} {A : Nat → Nat} {h0 h1 h2 : MH} {F1 F2 : Nat → Int} {V1 V2 : Nat → Nat → Int} {G1 G2 : Nat → Nat → Int64}
-- a run further, told from here
theorem MX.re (M : MX R W ρ m A h0 h1 F1 V1 G1) (M2 : MX R W2 ρ m A h1 h2 F2 V2 G2) (hs : d_sub W2 W = true) : MX R W ρ m A h0 h2 F2 V2 G2 := ⟨⟨M2.1.1, M2.1.2.1, M.1.2.2.trans (FS.mono hs M2.1.2.2)⟩, M2.2⟩
theorem MX.lf (M2 : MX R W2 ρ m A h1 h2 F2 V2 G2) (hR : R ≠ 0) {k : Nat} (hn : t_Wb W2 R k = false) : h_l h2 m k = h_l h1 m k := by
  have l := (M2.1.1.2 m (by rw [M2.1.2.1]; exact hR)).1
  have e : h_n h2 = h_n h1 := congrArg Prod.fst M2.1.2.2.1
  exact ((M2.1.2.2.2 m (by omega)).2 k (by rw [M2.1.2.1]; exact x_Wb hn)).2.1
end
section
variable {lv : List (Nat × Value)} {Q : Option Value → MH → Prop} {W : List (Nat × Nat)} {ρ : Nat → Nat} {m : Nat} {A : Nat → Nat} {h0 h : MH} {F : Nat → Int} {V : Nat → Nat → Int} {G : Nat → Nat → Int64}
theorem s_cl (M : MX 103 W ρ m A h0 h F V G) (e0 : m_lk lv 0 = some (.ref m)) (hw : d_sub [(103, 2)] W = true)
    (g0 : ∀ h2 : MH, ∀ F2 : Nat → Int, F2 = m_u F 2 (0) → MX 103 W ρ m A h0 h2 F2 V G → Q none h2)
    : HJ 14 0 lv [] h Q := by
  refine hI_al (k := 0) rfl e0 rfl ?_ -- 0
  refine hM_ic (n := 0) rfl (by decide) rfl (fun x1 q1 => ?_) -- 1
  refine hM_pi M (by decide) ok_103 rfl rfl (k := 2) (c := 0) (lo := 0) (hi := 40) rfl rfl ⟨by decide, by decide +kernel, rfl⟩ rfl (d_subm hw (by decide +kernel)) q1 (by omega) (by omega) rfl (fun h2 F2 f2 M2 => ?_) -- 2
  refine hI_rv rfl rfl ?_
  exact g0 h2 F2 f2 M2
theorem s_be0 {k : Int} (M : MX 103 W ρ m A h0 h F V G) (e0 : m_lk lv 0 = some (.ref m)) {lx1 : Int32} (e1 : m_lk lv 1 = some (.int lx1)) (lq1 : lx1.toInt = k) (hw : d_sub [(104, 1001)] W = true)
    (g0 : 0 ≤ F 2 → F 2 ≤ 40 → F 2 ≥ 40 → Q none h)
    (g1 : ∀ h4 : MH, ∀ V4 : Nat → Nat → Int, V4 = m_u V 0 (m_u (V 0) (F 2).toNat (k)) → ∀ x7 : Int32, x7.toInt = (F 2) * 3 → ∀ x12 : Int32, x12.toInt = ((F 2) * 3) + 3 → ∀ x13 : Int32, x13.toInt = (-1) → MX 103 W ρ m A h0 h4 F V4 G → 0 ≤ F 2 → F 2 ≤ 40 → F 2 < 40 → HJ 37 0 (lv_args 0 [.ref (A 1), .int x7, .int x12, .int x13]) [] h4 (fun v h' => HJ 36 41 lv (v.toList ++ []) h' Q))
    : HJ 36 0 lv [] h Q := by
  have lb1 : -2147483648 ≤ k ∧ k ≤ 2147483647 := by rw [← lq1]; exact g_iT _
  refine hI_al (k := 0) rfl e0 rfl ?_ -- 0
  refine hM_gi M (by decide) rfl rfl rfl (k := 2) (c := 0) (lo := 0) (hi := 40) rfl rfl rfl rfl rfl (fun x1 q1 a1 b1 => ?_) -- 1
  refine hM_bp (n := 40) rfl (by decide) rfl (fun x2 q2 => ?_) -- 4
  refine hM_cge (off := 45) (t := 51) rfl q1 q2 (by decide) rfl (fun c6 => ?_) (fun c6 => ?_) -- 6
  · refine hI_rv rfl rfl ?_
    exact g0 a1 b1 c6
  · refine hI_al (k := 0) rfl e0 rfl ?_ -- 9
    refine hM_ga M (by decide) rfl rfl (k := 0) (c := 0) rfl rfl rfl (by decide +kernel) rfl ?_ -- 10
    refine hI_al (k := 0) rfl e0 rfl ?_ -- 13
    refine hM_gi M (by decide) rfl rfl rfl (k := 2) (c := 0) (lo := 0) (hi := 40) rfl rfl rfl rfl rfl (fun x3 q3 a3 b3 => ?_) -- 14
    refine hI_il (k := 1) rfl e1 rfl ?_ -- 17
    refine hM_is M (by decide) ok_103 (K := 0) (R2 := 104) (L := 40) (H := 40) (lo := (-2147483648)) (hi := 2147483647) rfl (by decide) rfl rfl rfl (fun _ => rfl) (d_subm hw (by decide +kernel)) rfl q3 lq1 (by omega) (by omega) (by omega) (by omega) rfl (fun h4 V4 f4 M4 => ?_) -- 18
    refine hI_al (k := 0) rfl e0 rfl ?_ -- 19
    refine hM_ga M4 (by decide) rfl rfl (k := 1) (c := 0) rfl rfl rfl (by decide +kernel) rfl ?_ -- 20
    refine hI_al (k := 0) rfl e0 rfl ?_ -- 23
    refine hM_gi M4 (by decide) rfl rfl rfl (k := 2) (c := 0) (lo := 0) (hi := 40) rfl rfl rfl rfl rfl (fun x5 q5 a5 b5 => ?_) -- 24
    refine hM_ic (n := 3) rfl (by decide) rfl (fun x6 q6 => ?_) -- 27
    refine hM_mul rfl q5 q6 (by omega) (by omega) rfl (fun x7 q7 => ?_) -- 28
    refine hI_al (k := 0) rfl e0 rfl ?_ -- 29
    refine hM_gi M4 (by decide) rfl rfl rfl (k := 2) (c := 0) (lo := 0) (hi := 40) rfl rfl rfl rfl rfl (fun x8 q8 a8 b8 => ?_) -- 30
    refine hM_ic (n := 3) rfl (by decide) rfl (fun x9 q9 => ?_) -- 33
    refine hM_mul rfl q8 q9 (by omega) (by omega) rfl (fun x10 q10 => ?_) -- 34
    refine hM_ic (n := 3) rfl (by decide) rfl (fun x11 q11 => ?_) -- 35
    refine hM_add rfl q10 q11 (by omega) (by omega) rfl (fun x12 q12 => ?_) -- 36
    refine hM_ic (n := (-1)) rfl (by decide) rfl (fun x13 q13 => ?_) -- 37
    refine hM_is0 (as := [.ref (A 1), .int x7, .int x12, .int x13]) (r := []) rfl rfl (by decide +kernel) rfl rfl rfl rfl rfl ?_ -- 38
    exact g1 h4 V4 f4 x7 q7 x12 q12 x13 q13 M4 a1 b1 c6
theorem s_be41 (M : MX 103 W ρ m A h0 h F V G) (e0 : m_lk lv 0 = some (.ref m)) (z1 : F 2 ≤ 39)(hw : d_sub [(103, 2)] W = true)
    (g0 : ∀ h4 : MH, ∀ F4 : Nat → Int, F4 = m_u F 2 ((F 2) + 1) → MX 103 W ρ m A h0 h4 F4 V G → 0 ≤ F 2 → F 2 ≤ 40 → Q none h4)
    : HJ 36 41 lv [] h Q := by
  refine hI_al (k := 0) rfl e0 rfl ?_ -- 41
  refine hI_dup rfl rfl rfl ?_ -- 42
  refine hM_gi M (by decide) rfl rfl rfl (k := 2) (c := 0) (lo := 0) (hi := 40) rfl rfl rfl rfl rfl (fun x1 q1 a1 b1 => ?_) -- 43
  refine hM_ic (n := 1) rfl (by decide) rfl (fun x2 q2 => ?_) -- 46
  refine hM_add rfl q1 q2 (by omega) (by omega) rfl (fun x3 q3 => ?_) -- 47
  refine hM_pi M (by decide) ok_103 rfl rfl (k := 2) (c := 0) (lo := 0) (hi := 40) rfl rfl ⟨by decide, by decide +kernel, rfl⟩ rfl (d_subm hw (by decide +kernel)) q3 (by omega) (by omega) rfl (fun h4 F4 f4 M4 => ?_) -- 48
  refine hI_rv rfl rfl ?_
  exact g0 h4 F4 f4 M4 a1 b1
theorem s_fl0 {f t z : Int} (M : MX 103 W ρ m A h0 h F V G) (e0 : m_lk lv 0 = some (.ref (A 1))) {lx1 : Int32} (e1 : m_lk lv 1 = some (.int lx1)) (lq1 : lx1.toInt = f) {lx2 : Int32} (e2 : m_lk lv 2 = some (.int lx2)) (lq2 : lx2.toInt = t) {lx3 : Int32} (e3 : m_lk lv 3 = some (.int lx3)) (lq3 : lx3.toInt = z) 
    (g0 : ∀ x1 : Int32, ∀ z1 : Int, x1.toInt = z1 → 120 ≤ z1 → z1 ≤ 120 → z1 = ((h_k h0 (A 1)).2 : Int) → HJ 38 0 (lv_args 0 [.int x1, .int lx1, .int lx2]) [] h (fun v h' => HJ 37 7 lv (v.toList ++ []) h' Q))
    : HJ 37 0 lv [] h Q := by
  refine hI_al (k := 0) rfl e0 rfl ?_ -- 0
  refine hM_al M (by decide) (K := 1) (R2 := 105) (L := 120) (H := 120) rfl (by decide) rfl rfl (by decide) rfl rfl (fun x1 z1 q1 a1 b1 c1 => ?_) -- 1
  refine hI_il (k := 1) rfl e1 rfl ?_ -- 2
  refine hI_il (k := 2) rfl e2 rfl ?_ -- 3
  refine hM_is0 (as := [.int x1, .int lx1, .int lx2]) (r := []) rfl rfl (by decide +kernel) rfl rfl rfl rfl rfl ?_ -- 4
  exact g0 x1 z1 q1 a1 b1 c1
theorem s_fl7 {f t z : Int} (M : MX 103 W ρ m A h0 h F V G) (e0 : m_lk lv 0 = some (.ref (A 1))) {lx1 : Int32} (e1 : m_lk lv 1 = some (.int lx1)) (lq1 : lx1.toInt = f) {lx2 : Int32} (e2 : m_lk lv 2 = some (.int lx2)) (lq2 : lx2.toInt = t) {lx3 : Int32} (e3 : m_lk lv 3 = some (.int lx3)) (lq3 : lx3.toInt = z) 
    (g0 : ∀ lv1 : List (Nat × Value), m_lk lv1 0 = some (.ref (A 1)) → m_lk lv1 1 = some (.int lx1) → m_lk lv1 2 = some (.int lx2) → m_lk lv1 3 = some (.int lx3) → m_lk lv1 4 = some (.int lx1) → HJ 37 10 lv1 [] h Q)
    : HJ 37 7 lv [] h Q := by
  refine hI_il (k := 1) rfl e1 rfl ?_ -- 7
  refine hM_si2 (k := 4) rfl (by decide +kernel) rfl (fun lv1 e1_4 u1 => ?_) -- 8
  have e1_0 := u1 0 _ (by decide) (Or.inl rfl) e0
  have e1_1 := u1 1 _ (by decide) (Or.inl rfl) e1
  have e1_2 := u1 2 _ (by decide) (Or.inl rfl) e2
  have e1_3 := u1 3 _ (by decide) (Or.inl rfl) e3
  exact g0 lv1 e1_0 e1_1 e1_2 e1_3 e1_4
theorem s_fl10 {t z i : Int} (M : MX 103 W ρ m A h0 h F V G) (e0 : m_lk lv 0 = some (.ref (A 1))) {lx2 : Int32} (e2 : m_lk lv 2 = some (.int lx2)) (lq2 : lx2.toInt = t) {lx3 : Int32} (e3 : m_lk lv 3 = some (.int lx3)) (lq3 : lx3.toInt = z) {lx4 : Int32} (e4 : m_lk lv 4 = some (.int lx4)) (lq4 : lx4.toInt = i) (i0 : 0 ≤ i) (t1 : t ≤ 120)(hw : d_sub [(105, 1001)] W = true)
    (g0 : i ≥ t → Q none h)
    (g1 : ∀ h1 : MH, ∀ V1 : Nat → Nat → Int, V1 = m_u V 1 (m_u (V 1) (i).toNat (z)) → ∀ x2 : Int32, x2.toInt = i + 1 → ∀ lv2 : List (Nat × Value), MX 103 W ρ m A h0 h1 F V1 G → m_lk lv2 0 = some (.ref (A 1)) → m_lk lv2 2 = some (.int lx2) → m_lk lv2 3 = some (.int lx3) → m_lk lv2 4 = some (.int x2) → i < t → HJ 37 10 lv2 [] h1 Q)
    : HJ 37 10 lv [] h Q := by
  have lb2 : -2147483648 ≤ t ∧ t ≤ 2147483647 := by rw [← lq2]; exact g_iT _
  have lb3 : -2147483648 ≤ z ∧ z ≤ 2147483647 := by rw [← lq3]; exact g_iT _
  have lb4 : -2147483648 ≤ i ∧ i ≤ 2147483647 := by rw [← lq4]; exact g_iT _
  refine hI_il2 (k := 4) rfl e4 rfl ?_ -- 10
  refine hI_il (k := 2) rfl e2 rfl ?_ -- 12
  refine hM_cge (off := 14) (t := 27) rfl lq4 lq2 (by decide) rfl (fun c13 => ?_) (fun c13 => ?_) -- 13
  · refine hI_rv rfl rfl ?_
    exact g0 c13
  · refine hI_al (k := 0) rfl e0 rfl ?_ -- 16
    refine hI_il2 (k := 4) rfl e4 rfl ?_ -- 17
    refine hI_il (k := 3) rfl e3 rfl ?_ -- 19
    refine hM_is M (by decide) ok_103 (K := 1) (R2 := 105) (L := 120) (H := 120) (lo := (-2147483648)) (hi := 2147483647) rfl (by decide) rfl rfl rfl (fun _ => rfl) (d_subm hw (by decide +kernel)) rfl lq4 lq3 (by omega) (by omega) (by omega) (by omega) rfl (fun h1 V1 f1 M1 => ?_) -- 20
    refine hM_inc (k := 4) (z := 1) rfl e4 lq4 (by decide) (by omega) (by omega) (by decide +kernel) rfl (fun lv2 x2 q2 e2_4 u2 => ?_) -- 21
    have e2_0 := u2 0 _ (by decide) (Or.inl rfl) e0
    have e2_2 := u2 2 _ (by decide) (Or.inl rfl) e2
    have e2_3 := u2 3 _ (by decide) (Or.inl rfl) e3
    refine hI_go (pc' := 10) (off := (-14)) rfl (by decide) ?_ -- 24
    exact g1 h1 V1 f1 x2 q2 lv2 M1 e2_0 e2_2 e2_3 e2_4 c13
theorem s_tl {i v : Int} (M : MX 103 W ρ m A h0 h F V G) (e0 : m_lk lv 0 = some (.ref m)) {lx1 : Int32} (e1 : m_lk lv 1 = some (.int lx1)) (lq1 : lx1.toInt = i) {lx2 : Int32} (e2 : m_lk lv 2 = some (.int lx2)) (lq2 : lx2.toInt = v) (hw : d_sub [(105, 1001)] W = true)
    (g0 : 0 ≤ F 2 → F 2 ≤ 40 → F 2 ≤ 0 → Q none h)
    (g1 : 0 ≤ F 2 → F 2 ≤ 40 → F 2 > 0 → i < 0 → Q none h)
    (g2 : 0 ≤ F 2 → F 2 ≤ 40 → F 2 > 0 → i ≥ 0 → i ≥ 3 → Q none h)
    (g3 : ∀ h9 : MH, ∀ V9 : Nat → Nat → Int, V9 = m_u V 1 (m_u (V 1) ((((F 2) - 1) * 3) + i).toNat (v)) → MX 103 W ρ m A h0 h9 F V9 G → 0 ≤ F 2 → F 2 ≤ 40 → F 2 > 0 → i ≥ 0 → i < 3 → Q none h9)
    : HJ 39 0 lv [] h Q := by
  have lb1 : -2147483648 ≤ i ∧ i ≤ 2147483647 := by rw [← lq1]; exact g_iT _
  have lb2 : -2147483648 ≤ v ∧ v ≤ 2147483647 := by rw [← lq2]; exact g_iT _
  refine hI_al (k := 0) rfl e0 rfl ?_ -- 0
  refine hM_gi M (by decide) rfl rfl rfl (k := 2) (c := 0) (lo := 0) (hi := 40) rfl rfl rfl rfl rfl (fun x1 q1 a1 b1 => ?_) -- 1
  refine hM_zle (off := 28) (t := 32) rfl q1 (by decide) rfl (fun c4 => ?_) (fun c4 => ?_) -- 4
  · refine hI_rv rfl rfl ?_
    exact g0 a1 b1 c4
  · refine hI_il (k := 1) rfl e1 rfl ?_ -- 7
    refine hM_zlt (off := 24) (t := 32) rfl lq1 (by decide) rfl (fun c8 => ?_) (fun c8 => ?_) -- 8
    · refine hI_rv rfl rfl ?_
      exact g1 a1 b1 c4 c8
    · refine hI_il (k := 1) rfl e1 rfl ?_ -- 11
      refine hM_ic (n := 3) rfl (by decide) rfl (fun x2 q2 => ?_) -- 12
      refine hM_cge (off := 19) (t := 32) rfl lq1 q2 (by decide) rfl (fun c13 => ?_) (fun c13 => ?_) -- 13
      · refine hI_rv rfl rfl ?_
        exact g2 a1 b1 c4 c8 c13
      · refine hI_al (k := 0) rfl e0 rfl ?_ -- 16
        refine hM_ga M (by decide) rfl rfl (k := 1) (c := 0) rfl rfl rfl (by decide +kernel) rfl ?_ -- 17
        refine hI_al (k := 0) rfl e0 rfl ?_ -- 20
        refine hM_gi M (by decide) rfl rfl rfl (k := 2) (c := 0) (lo := 0) (hi := 40) rfl rfl rfl rfl rfl (fun x3 q3 a3 b3 => ?_) -- 21
        refine hM_ic (n := 1) rfl (by decide) rfl (fun x4 q4 => ?_) -- 24
        refine hM_sub rfl q3 q4 (by omega) (by omega) rfl (fun x5 q5 => ?_) -- 25
        refine hM_ic (n := 3) rfl (by decide) rfl (fun x6 q6 => ?_) -- 26
        refine hM_mul rfl q5 q6 (by omega) (by omega) rfl (fun x7 q7 => ?_) -- 27
        refine hI_il (k := 1) rfl e1 rfl ?_ -- 28
        refine hM_add rfl q7 lq1 (by omega) (by omega) rfl (fun x8 q8 => ?_) -- 29
        refine hI_il (k := 2) rfl e2 rfl ?_ -- 30
        refine hM_is M (by decide) ok_103 (K := 1) (R2 := 105) (L := 120) (H := 120) (lo := (-2147483648)) (hi := 2147483647) rfl (by decide) rfl rfl rfl (fun _ => rfl) (d_subm hw (by decide +kernel)) rfl q8 lq2 (by omega) (by omega) (by omega) (by omega) rfl (fun h9 V9 f9 M9 => ?_) -- 31
        refine hI_rv rfl rfl ?_
        exact g3 h9 V9 f9 M9 a1 b1 c4 c8 c13
theorem s_rl0 (M : MX 106 W ρ m A h0 h F V G) (e0 : m_lk lv 0 = some (.ref m)) {ac : Nat} (e1 : m_lk lv 1 = some (.ref ac)) (hr_ac : ρ ac = 103) 
    (g0 : HJ 16 0 (lv_args 0 [.ref m]) [] h (fun v h' => HJ 15 4 lv (v.toList ++ []) h' Q))
    : HJ 15 0 lv [] h Q := by
  refine hI_al (k := 0) rfl e0 rfl ?_ -- 0
  refine hM_iv M (by decide) rfl rfl (by decide) (as := []) (r := []) rfl rfl (by decide +kernel) rfl (by decide +kernel) rfl rfl rfl rfl rfl ?_ -- 1
  exact g0 
theorem s_rl4 (M : MX 106 W ρ m A h0 h F V G) (e0 : m_lk lv 0 = some (.ref m)) {ac : Nat} (e1 : m_lk lv 1 = some (.ref ac)) (hr_ac : ρ ac = 103) (b0 : 0 ≤ F 6) (b1 : F 6 ≤ 1000)(hw : d_sub [(106, 6)] W = true)
    (g0 : (-2147483648) ≤ F 4 → F 4 ≤ 2147483647 → F 4 ≠ 0 → F 4 ≠ 1 → HJ 34 0 (lv_args 0 [.ref m]) [] h (fun v h' => HJ 15 33 lv (v.toList ++ []) h' Q))
    (g1 : ∀ x6 : Int32, x6.toInt = F 5 → ∀ x10 : Int32, x10.toInt = 0 → ∀ h15 : MH, ∀ F15 : Nat → Int, F15 = m_u F 6 ((F 6) + 1) → ∀ lv11 : List (Nat × Value), MX 106 W ρ m A h0 h15 F15 V G → m_lk lv11 0 = some (.ref m) → m_lk lv11 1 = some (.ref ac) → m_lk lv11 2 = some (.int x6) → m_lk lv11 3 = some (.int x10) → (-2147483648) ≤ F 4 → F 4 ≤ 2147483647 → F 4 ≠ 0 → F 4 = 1 → (-2147483648) ≤ F 5 → F 5 ≤ 2147483647 → F 5 ≠ (-1) → (-2147483648) ≤ F 6 → F 6 ≤ 2147483647 → F 6 < 40 → HJ 15 64 lv11 [] h15 Q)
    (g2 : ∀ x6 : Int32, x6.toInt = F 5 → ∀ x16 : Int32, x16.toInt = 1 → ∀ h21 : MH, ∀ F21 : Nat → Int, F21 = m_u F 6 ((F 6) + 1) → ∀ lv17 : List (Nat × Value), MX 106 W ρ m A h0 h21 F21 V G → m_lk lv17 0 = some (.ref m) → m_lk lv17 1 = some (.ref ac) → m_lk lv17 2 = some (.int x6) → m_lk lv17 3 = some (.int x16) → (-2147483648) ≤ F 4 → F 4 ≤ 2147483647 → F 4 ≠ 0 → F 4 = 1 → (-2147483648) ≤ F 5 → F 5 ≤ 2147483647 → F 5 ≠ (-1) → (-2147483648) ≤ F 6 → F 6 ≤ 2147483647 → F 6 ≥ 40 → HJ 15 64 lv17 [] h21 Q)
    (g3 : (-2147483648) ≤ F 4 → F 4 ≤ 2147483647 → F 4 ≠ 0 → F 4 = 1 → (-2147483648) ≤ F 5 → F 5 ≤ 2147483647 → F 5 = (-1) → HJ 34 0 (lv_args 0 [.ref m]) [] h (fun v h' => HJ 15 33 lv (v.toList ++ []) h' Q))
    (g4 : ∀ x22 : Int32, x22.toInt = 0 → (-2147483648) ≤ F 4 → F 4 ≤ 2147483647 → F 4 = 0 → Q (some (.int x22)) h)
    : HJ 15 4 lv [] h Q := by
  refine hI_al (k := 0) rfl e0 rfl ?_ -- 4
  refine hM_gi M (by decide) rfl rfl rfl (k := 4) (c := 4) (lo := (-2147483648)) (hi := 2147483647) rfl rfl rfl rfl rfl (fun x1 q1 a1 b1 => ?_) -- 5
  refine hM_zne (off := 5) (t := 13) rfl q1 (by decide) rfl (fun c8 => ?_) (fun c8 => ?_) -- 8
  · refine hI_al (k := 0) rfl e0 rfl ?_ -- 13
    refine hM_gi M (by decide) rfl rfl rfl (k := 4) (c := 4) (lo := (-2147483648)) (hi := 2147483647) rfl rfl rfl rfl rfl (fun x2 q2 a2 b2 => ?_) -- 14
    refine hM_ic (n := 1) rfl (by decide) rfl (fun x3 q3 => ?_) -- 17
    refine hM_cne (off := 11) (t := 29) rfl q2 q3 (by decide) rfl (fun c18 => ?_) (fun c18 => ?_) -- 18
    · refine hI_al (k := 0) rfl e0 rfl ?_ -- 29
      refine hM_iv M (by decide) rfl rfl (by decide) (as := []) (r := []) rfl rfl (by decide +kernel) rfl (by decide +kernel) rfl rfl rfl rfl rfl ?_ -- 30
      exact g0 a1 b1 c8 c18
    · refine hI_al (k := 0) rfl e0 rfl ?_ -- 21
      refine hM_gi M (by decide) rfl rfl rfl (k := 5) (c := 4) (lo := (-2147483648)) (hi := 2147483647) rfl rfl rfl rfl rfl (fun x4 q4 a4 b4 => ?_) -- 22
      refine hM_ic (n := (-1)) rfl (by decide) rfl (fun x5 q5 => ?_) -- 25
      refine hM_cne (off := 8) (t := 34) rfl q4 q5 (by decide) rfl (fun c26 => ?_) (fun c26 => ?_) -- 26
      · refine hI_al (k := 0) rfl e0 rfl ?_ -- 34
        refine hM_gi M (by decide) rfl rfl rfl (k := 5) (c := 4) (lo := (-2147483648)) (hi := 2147483647) rfl rfl rfl rfl rfl (fun x6 q6 a6 b6 => ?_) -- 35
        refine hM_si (k := 2) rfl (by decide +kernel) rfl (fun lv7 e7_2 u7 => ?_) -- 38
        have e7_0 := u7 0 _ (by decide) (Or.inl rfl) e0
        have e7_1 := u7 1 _ (by decide) (Or.inl rfl) e1
        refine hI_al (k := 0) rfl e7_0 rfl ?_ -- 39
        refine hM_gi M (by decide) rfl rfl rfl (k := 6) (c := 4) (lo := (-2147483648)) (hi := 2147483647) rfl rfl rfl rfl rfl (fun x8 q8 a8 b8 => ?_) -- 40
        refine hM_bp (n := 40) rfl (by decide) rfl (fun x9 q9 => ?_) -- 43
        refine hM_clt (off := 7) (t := 52) rfl q8 q9 (by decide) rfl (fun c45 => ?_) (fun c45 => ?_) -- 45
        · refine hM_ic (n := 0) rfl (by decide) rfl (fun x10 q10 => ?_) -- 52
          refine hM_si (k := 3) rfl (by decide +kernel) rfl (fun lv11 e11_3 u11 => ?_) -- 53
          have e11_0 := u11 0 _ (by decide) (Or.inl rfl) e7_0
          have e11_1 := u11 1 _ (by decide) (Or.inl rfl) e7_1
          have e11_2 := u11 2 _ (by decide) (Or.inl rfl) e7_2
          refine hI_al (k := 0) rfl e11_0 rfl ?_ -- 54
          refine hI_dup rfl rfl rfl ?_ -- 55
          refine hM_gi M (by decide) rfl rfl rfl (k := 6) (c := 4) (lo := (-2147483648)) (hi := 2147483647) rfl rfl rfl rfl rfl (fun x12 q12 a12 b12 => ?_) -- 56
          refine hM_ic (n := 1) rfl (by decide) rfl (fun x13 q13 => ?_) -- 59
          refine hM_add rfl q12 q13 (by omega) (by omega) rfl (fun x14 q14 => ?_) -- 60
          refine hM_pi M (by decide) ok_106 rfl rfl (k := 6) (c := 4) (lo := (-2147483648)) (hi := 2147483647) rfl rfl ⟨by decide, by decide +kernel, rfl⟩ rfl (d_subm hw (by decide +kernel)) q14 (by omega) (by omega) rfl (fun h15 F15 f15 M15 => ?_) -- 61
          exact g1 x6 q6 x10 q10 h15 F15 f15 lv11 M15 e11_0 e11_1 e11_2 e11_3 a1 b1 c8 c18 a4 b4 c26 a8 b8 c45
        · refine hM_ic (n := 1) rfl (by decide) rfl (fun x16 q16 => ?_) -- 48
          refine hI_go (pc' := 53) (off := 4) rfl (by decide) ?_ -- 49
          refine hM_si (k := 3) rfl (by decide +kernel) rfl (fun lv17 e17_3 u17 => ?_) -- 53
          have e17_0 := u17 0 _ (by decide) (Or.inl rfl) e7_0
          have e17_1 := u17 1 _ (by decide) (Or.inl rfl) e7_1
          have e17_2 := u17 2 _ (by decide) (Or.inl rfl) e7_2
          refine hI_al (k := 0) rfl e17_0 rfl ?_ -- 54
          refine hI_dup rfl rfl rfl ?_ -- 55
          refine hM_gi M (by decide) rfl rfl rfl (k := 6) (c := 4) (lo := (-2147483648)) (hi := 2147483647) rfl rfl rfl rfl rfl (fun x18 q18 a18 b18 => ?_) -- 56
          refine hM_ic (n := 1) rfl (by decide) rfl (fun x19 q19 => ?_) -- 59
          refine hM_add rfl q18 q19 (by omega) (by omega) rfl (fun x20 q20 => ?_) -- 60
          refine hM_pi M (by decide) ok_106 rfl rfl (k := 6) (c := 4) (lo := (-2147483648)) (hi := 2147483647) rfl rfl ⟨by decide, by decide +kernel, rfl⟩ rfl (d_subm hw (by decide +kernel)) q20 (by omega) (by omega) rfl (fun h21 F21 f21 M21 => ?_) -- 61
          exact g2 x6 q6 x16 q16 h21 F21 f21 lv17 M21 e17_0 e17_1 e17_2 e17_3 a1 b1 c8 c18 a4 b4 c26 a8 b8 c45
      · refine hI_al (k := 0) rfl e0 rfl ?_ -- 29
        refine hM_iv M (by decide) rfl rfl (by decide) (as := []) (r := []) rfl rfl (by decide +kernel) rfl (by decide +kernel) rfl rfl rfl rfl rfl ?_ -- 30
        exact g3 a1 b1 c8 c18 a4 b4 c26
  · refine hM_ic (n := 0) rfl (by decide) rfl (fun x22 q22 => ?_) -- 11
    refine hM_rb rfl rfl q22 (by omega) (by omega) ?_ -- 12
    exact g4 x22 q22 a1 b1 c8
theorem s_rl33 {z : Int}  {sx0 : Int32} (sq0 : sx0.toInt = z) (z0 : 0 ≤ z) (z1 : z ≤ 1)
    (g0 : Q (some (.int sx0)) h)
    : HJ 15 33 lv [.int sx0] h Q := by
  refine hM_rb rfl rfl sq0 (by omega) (by omega) ?_ -- 33
  exact g0 
theorem s_rl64 {k t : Int} (M : MX 106 W ρ m A h0 h F V G) (e0 : m_lk lv 0 = some (.ref m)) {ac : Nat} (e1 : m_lk lv 1 = some (.ref ac)) (hr_ac : ρ ac = 103) {lx2 : Int32} (e2 : m_lk lv 2 = some (.int lx2)) (lq2 : lx2.toInt = k) {lx3 : Int32} (e3 : m_lk lv 3 = some (.int lx3)) (lq3 : lx3.toInt = t) 
    (g0 : t = 0 → HJ 36 0 (lv_args 0 [.ref ac, .int lx2]) [] h (fun v h' => HJ 15 85 lv (v.toList ++ []) h' Q))
    (g1 : ∀ x1 : Int32, x1.toInt = 3 → ∀ x2 : Int32, x2.toInt = F 2 → t ≠ 0 → 0 ≤ F 2 → F 2 ≤ 600 → HJ 35 0 (lv_args 0 [.ref m, .int x1, .int x2]) [] h (fun v h' => HJ 15 77 lv (v.toList ++ []) h' Q))
    : HJ 15 64 lv [] h Q := by
  refine hI_il (k := 3) rfl e3 rfl ?_ -- 64
  refine hM_zeq (off := 15) (t := 80) rfl lq3 (by decide) rfl (fun c65 => ?_) (fun c65 => ?_) -- 65
  · refine hI_al (k := 1) rfl e1 rfl ?_ -- 80
    refine hI_il (k := 2) rfl e2 rfl ?_ -- 81
    refine hM_iv (MX.start (W := W) M.1.1 hr_ac) (by decide) rfl rfl (by decide) (as := [.int lx2]) (r := []) rfl rfl (by decide +kernel) rfl (by decide +kernel) rfl rfl rfl rfl rfl ?_ -- 82
    exact g0 c65
  · refine hI_al (k := 0) rfl e0 rfl ?_ -- 68
    refine hM_ic (n := 3) rfl (by decide) rfl (fun x1 q1 => ?_) -- 69
    refine hI_al (k := 0) rfl e0 rfl ?_ -- 70
    refine hM_gi M (by decide) rfl rfl rfl (k := 2) (c := 4) (lo := 0) (hi := 600) rfl rfl rfl rfl rfl (fun x2 q2 a2 b2 => ?_) -- 71
    refine hM_iv M (by decide) rfl rfl (by decide) (as := [.int x1, .int x2]) (r := []) rfl rfl (by decide +kernel) rfl (by decide +kernel) rfl rfl rfl rfl rfl ?_ -- 74
    exact g1 x1 q1 x2 q2 c65 a2 b2
theorem s_rl77 {k t : Int} (M : MX 106 W ρ m A h0 h F V G) (e0 : m_lk lv 0 = some (.ref m)) {ac : Nat} (e1 : m_lk lv 1 = some (.ref ac)) (hr_ac : ρ ac = 103) {lx2 : Int32} (e2 : m_lk lv 2 = some (.int lx2)) (lq2 : lx2.toInt = k) {lx3 : Int32} (e3 : m_lk lv 3 = some (.int lx3)) (lq3 : lx3.toInt = t) 
    (g0 : HJ 15 85 lv [] h Q)
    : HJ 15 77 lv [] h Q := by
  refine hI_go (pc' := 85) (off := 8) rfl (by decide) ?_ -- 77
  exact g0 
theorem s_rl85 {k t : Int} (M : MX 106 W ρ m A h0 h F V G) (e0 : m_lk lv 0 = some (.ref m)) {ac : Nat} (e1 : m_lk lv 1 = some (.ref ac)) (hr_ac : ρ ac = 103) {lx2 : Int32} (e2 : m_lk lv 2 = some (.int lx2)) (lq2 : lx2.toInt = k) {lx3 : Int32} (e3 : m_lk lv 3 = some (.int lx3)) (lq3 : lx3.toInt = t) 
    (g0 : ∀ x1 : Int32, x1.toInt = 0 → ∀ lv2 : List (Nat × Value), m_lk lv2 0 = some (.ref m) → m_lk lv2 1 = some (.ref ac) → m_lk lv2 2 = some (.int lx2) → m_lk lv2 3 = some (.int lx3) → m_lk lv2 4 = some (.int x1) → HJ 15 88 lv2 [] h Q)
    : HJ 15 85 lv [] h Q := by
  refine hM_ic (n := 0) rfl (by decide) rfl (fun x1 q1 => ?_) -- 85
  refine hM_si2 (k := 4) rfl (by decide +kernel) rfl (fun lv2 e2_4 u2 => ?_) -- 86
  have e2_0 := u2 0 _ (by decide) (Or.inl rfl) e0
  have e2_1 := u2 1 _ (by decide) (Or.inl rfl) e1
  have e2_2 := u2 2 _ (by decide) (Or.inl rfl) e2
  have e2_3 := u2 3 _ (by decide) (Or.inl rfl) e3
  exact g0 x1 q1 lv2 e2_0 e2_1 e2_2 e2_3 e2_4
theorem s_rl88 {k t i : Int} (M : MX 106 W ρ m A h0 h F V G) (e0 : m_lk lv 0 = some (.ref m)) {ac : Nat} (e1 : m_lk lv 1 = some (.ref ac)) (hr_ac : ρ ac = 103) {lx2 : Int32} (e2 : m_lk lv 2 = some (.int lx2)) (lq2 : lx2.toInt = k) {lx3 : Int32} (e3 : m_lk lv 3 = some (.int lx3)) (lq3 : lx3.toInt = t) {lx4 : Int32} (e4 : m_lk lv 4 = some (.int lx4)) (lq4 : lx4.toInt = i) (hlim : lim_ok h) (k0 : 0 ≤ k) (k5 : k ≤ 5) (i0 : 0 ≤ i)
    (g0 : i ≥ 3 → HJ 15 171 lv [] h Q)
    (g1 : i < 3 → lm_at ((k * 3) + i).toNat = (-1) → HJ 15 171 lv [] h Q)
    (g2 : i < 3 → lm_at ((k * 3) + i).toNat ≠ (-1) → HJ 16 0 (lv_args 0 [.ref m]) [] h (fun v h' => HJ 15 112 lv (v.toList ++ []) h' Q))
    : HJ 15 88 lv [] h Q := by
  refine hI_il2 (k := 4) rfl e4 rfl ?_ -- 88
  refine hM_ic (n := 3) rfl (by decide) rfl (fun x1 q1 => ?_) -- 90
  refine hM_cge (off := 80) (t := 171) rfl lq4 q1 (by decide) rfl (fun c91 => ?_) (fun c91 => ?_) -- 91
  · exact g0 c91
  · refine hI_gs2 rfl rfl rfl ?_ -- 94
    refine hI_il (k := 2) rfl e2 rfl ?_ -- 97
    refine hM_ic (n := 3) rfl (by decide) rfl (fun x2 q2 => ?_) -- 98
    refine hM_mul rfl lq2 q2 (by omega) (by omega) rfl (fun x3 q3 => ?_) -- 99
    refine hI_il2 (k := 4) rfl e4 rfl ?_ -- 100
    refine hM_add rfl q3 lq4 (by omega) (by omega) rfl (fun x4 q4 => ?_) -- 102
    refine hM_lim hlim rfl q4 (by omega) (by omega) rfl (fun x5 q5 => ?_) -- 103
    refine hM_ic (n := (-1)) rfl (by decide) rfl (fun x6 q6 => ?_) -- 104
    refine hM_ceq (off := 66) (t := 171) rfl q5 q6 (by decide) rfl (fun c105 => ?_) (fun c105 => ?_) -- 105
    · exact g1 c91 c105
    · refine hI_al (k := 0) rfl e0 rfl ?_ -- 108
      refine hM_iv M (by decide) rfl rfl (by decide) (as := []) (r := []) rfl rfl (by decide +kernel) rfl (by decide +kernel) rfl rfl rfl rfl rfl ?_ -- 109
      exact g2 c91 c105
theorem s_rl112 {k t i : Int} (M : MX 106 W ρ m A h0 h F V G) (e0 : m_lk lv 0 = some (.ref m)) {ac : Nat} (e1 : m_lk lv 1 = some (.ref ac)) (hr_ac : ρ ac = 103) {lx2 : Int32} (e2 : m_lk lv 2 = some (.int lx2)) (lq2 : lx2.toInt = k) {lx3 : Int32} (e3 : m_lk lv 3 = some (.int lx3)) (lq3 : lx3.toInt = t) {lx4 : Int32} (e4 : m_lk lv 4 = some (.int lx4)) (lq4 : lx4.toInt = i) (hlim : lim_ok h) (k0 : 0 ≤ k) (k5 : k ≤ 5) (i0 : 0 ≤ i) (i2 : i ≤ 2)
    (g0 : (-2147483648) ≤ F 4 → F 4 ≤ 2147483647 → F 4 = 2 → (-2147483648) ≤ F 5 → F 5 ≤ 2147483647 → F 5 ≤ lm_at ((k * 3) + i).toNat → HJ 15 151 lv [] h Q)
    (g1 : ∀ x8 : Int32, x8.toInt = 2 → ∀ x9 : Int32, x9.toInt = F 2 → (-2147483648) ≤ F 4 → F 4 ≤ 2147483647 → F 4 = 2 → (-2147483648) ≤ F 5 → F 5 ≤ 2147483647 → F 5 > lm_at ((k * 3) + i).toNat → 0 ≤ F 2 → F 2 ≤ 600 → HJ 35 0 (lv_args 0 [.ref m, .int x8, .int x9]) [] h (fun v h' => HJ 15 151 lv (v.toList ++ []) h' Q))
    (g2 : (-2147483648) ≤ F 4 → F 4 ≤ 2147483647 → F 4 ≠ 2 → HJ 34 0 (lv_args 0 [.ref m]) [] h (fun v h' => HJ 15 124 lv (v.toList ++ []) h' Q))
    : HJ 15 112 lv [] h Q := by
  refine hI_al (k := 0) rfl e0 rfl ?_ -- 112
  refine hM_gi M (by decide) rfl rfl rfl (k := 4) (c := 4) (lo := (-2147483648)) (hi := 2147483647) rfl rfl rfl rfl rfl (fun x1 q1 a1 b1 => ?_) -- 113
  refine hM_ic (n := 2) rfl (by decide) rfl (fun x2 q2 => ?_) -- 116
  refine hM_ceq (off := 8) (t := 125) rfl q1 q2 (by decide) rfl (fun c117 => ?_) (fun c117 => ?_) -- 117
  · refine hI_al (k := 0) rfl e0 rfl ?_ -- 125
    refine hM_gi M (by decide) rfl rfl rfl (k := 5) (c := 4) (lo := (-2147483648)) (hi := 2147483647) rfl rfl rfl rfl rfl (fun x3 q3 a3 b3 => ?_) -- 126
    refine hI_gs2 rfl rfl rfl ?_ -- 129
    refine hI_il (k := 2) rfl e2 rfl ?_ -- 132
    refine hM_ic (n := 3) rfl (by decide) rfl (fun x4 q4 => ?_) -- 133
    refine hM_mul rfl lq2 q4 (by omega) (by omega) rfl (fun x5 q5 => ?_) -- 134
    refine hI_il2 (k := 4) rfl e4 rfl ?_ -- 135
    refine hM_add rfl q5 lq4 (by omega) (by omega) rfl (fun x6 q6 => ?_) -- 137
    refine hM_lim hlim rfl q6 (by omega) (by omega) rfl (fun x7 q7 => ?_) -- 138
    refine hM_cle (off := 12) (t := 151) rfl q3 q7 (by decide) rfl (fun c139 => ?_) (fun c139 => ?_) -- 139
    · exact g0 a1 b1 c117 a3 b3 c139
    · refine hI_al (k := 0) rfl e0 rfl ?_ -- 142
      refine hM_ic (n := 2) rfl (by decide) rfl (fun x8 q8 => ?_) -- 143
      refine hI_al (k := 0) rfl e0 rfl ?_ -- 144
      refine hM_gi M (by decide) rfl rfl rfl (k := 2) (c := 4) (lo := 0) (hi := 600) rfl rfl rfl rfl rfl (fun x9 q9 a9 b9 => ?_) -- 145
      refine hM_iv M (by decide) rfl rfl (by decide) (as := [.int x8, .int x9]) (r := []) rfl rfl (by decide +kernel) rfl (by decide +kernel) rfl rfl rfl rfl rfl ?_ -- 148
      exact g1 x8 q8 x9 q9 a1 b1 c117 a3 b3 c139 a9 b9
  · refine hI_al (k := 0) rfl e0 rfl ?_ -- 120
    refine hM_iv M (by decide) rfl rfl (by decide) (as := []) (r := []) rfl rfl (by decide +kernel) rfl (by decide +kernel) rfl rfl rfl rfl rfl ?_ -- 121
    exact g2 a1 b1 c117
theorem s_rl124 {z : Int}  {sx0 : Int32} (sq0 : sx0.toInt = z) (z0 : 0 ≤ z) (z1 : z ≤ 1)
    (g0 : Q (some (.int sx0)) h)
    : HJ 15 124 lv [.int sx0] h Q := by
  refine hM_rb rfl rfl sq0 (by omega) (by omega) ?_ -- 124
  exact g0 
theorem s_rl151 {k t i : Int} (M : MX 106 W ρ m A h0 h F V G) (e0 : m_lk lv 0 = some (.ref m)) {ac : Nat} (e1 : m_lk lv 1 = some (.ref ac)) (hr_ac : ρ ac = 103) {lx2 : Int32} (e2 : m_lk lv 2 = some (.int lx2)) (lq2 : lx2.toInt = k) {lx3 : Int32} (e3 : m_lk lv 3 = some (.int lx3)) (lq3 : lx3.toInt = t) {lx4 : Int32} (e4 : m_lk lv 4 = some (.int lx4)) (lq4 : lx4.toInt = i) 
    (g0 : t ≠ 0 → HJ 15 165 lv [] h Q)
    (g1 : ∀ x1 : Int32, x1.toInt = F 5 → t = 0 → (-2147483648) ≤ F 5 → F 5 ≤ 2147483647 → HJ 39 0 (lv_args 0 [.ref ac, .int lx4, .int x1]) [] h (fun v h' => HJ 15 165 lv (v.toList ++ []) h' Q))
    : HJ 15 151 lv [] h Q := by
  refine hI_il (k := 3) rfl e3 rfl ?_ -- 151
  refine hM_zne (off := 13) (t := 165) rfl lq3 (by decide) rfl (fun c152 => ?_) (fun c152 => ?_) -- 152
  · exact g0 c152
  · refine hI_al (k := 1) rfl e1 rfl ?_ -- 155
    refine hI_il2 (k := 4) rfl e4 rfl ?_ -- 156
    refine hI_al (k := 0) rfl e0 rfl ?_ -- 158
    refine hM_gi M (by decide) rfl rfl rfl (k := 5) (c := 4) (lo := (-2147483648)) (hi := 2147483647) rfl rfl rfl rfl rfl (fun x1 q1 a1 b1 => ?_) -- 159
    refine hM_iv (MX.start (W := W) M.1.1 hr_ac) (by decide) rfl rfl (by decide) (as := [.int lx4, .int x1]) (r := []) rfl rfl (by decide +kernel) rfl (by decide +kernel) rfl rfl rfl rfl rfl ?_ -- 162
    exact g1 x1 q1 c152 a1 b1
theorem s_rl165 {k t i : Int} (M : MX 106 W ρ m A h0 h F V G) (e0 : m_lk lv 0 = some (.ref m)) {ac : Nat} (e1 : m_lk lv 1 = some (.ref ac)) (hr_ac : ρ ac = 103) {lx2 : Int32} (e2 : m_lk lv 2 = some (.int lx2)) (lq2 : lx2.toInt = k) {lx3 : Int32} (e3 : m_lk lv 3 = some (.int lx3)) (lq3 : lx3.toInt = t) {lx4 : Int32} (e4 : m_lk lv 4 = some (.int lx4)) (lq4 : lx4.toInt = i) (i0 : 0 ≤ i) (i2 : i ≤ 2)
    (g0 : ∀ x1 : Int32, x1.toInt = i + 1 → ∀ lv1 : List (Nat × Value), m_lk lv1 0 = some (.ref m) → m_lk lv1 1 = some (.ref ac) → m_lk lv1 2 = some (.int lx2) → m_lk lv1 3 = some (.int lx3) → m_lk lv1 4 = some (.int x1) → HJ 15 88 lv1 [] h Q)
    : HJ 15 165 lv [] h Q := by
  refine hM_inc (k := 4) (z := 1) rfl e4 lq4 (by decide) (by omega) (by omega) (by decide +kernel) rfl (fun lv1 x1 q1 e1_4 u1 => ?_) -- 165
  have e1_0 := u1 0 _ (by decide) (Or.inl rfl) e0
  have e1_1 := u1 1 _ (by decide) (Or.inl rfl) e1
  have e1_2 := u1 2 _ (by decide) (Or.inl rfl) e2
  have e1_3 := u1 3 _ (by decide) (Or.inl rfl) e3
  refine hI_go (pc' := 88) (off := (-80)) rfl (by decide) ?_ -- 168
  exact g0 x1 q1 lv1 e1_0 e1_1 e1_2 e1_3 e1_4
theorem s_rl171 (M : MX 106 W ρ m A h0 h F V G) (e0 : m_lk lv 0 = some (.ref m)) {ac : Nat} (e1 : m_lk lv 1 = some (.ref ac)) (hr_ac : ρ ac = 103) 
    (g0 : HJ 16 0 (lv_args 0 [.ref m]) [] h (fun v h' => HJ 15 175 lv (v.toList ++ []) h' Q))
    : HJ 15 171 lv [] h Q := by
  refine hI_al (k := 0) rfl e0 rfl ?_ -- 171
  refine hM_iv M (by decide) rfl rfl (by decide) (as := []) (r := []) rfl rfl (by decide +kernel) rfl (by decide +kernel) rfl rfl rfl rfl rfl ?_ -- 172
  exact g0 
theorem s_rl175 (M : MX 106 W ρ m A h0 h F V G) (e0 : m_lk lv 0 = some (.ref m)) {ac : Nat} (e1 : m_lk lv 1 = some (.ref ac)) (hr_ac : ρ ac = 103) 
    (g0 : ∀ x3 : Int32, x3.toInt = 1 → (-2147483648) ≤ F 4 → F 4 ≤ 2147483647 → F 4 = 3 → Q (some (.int x3)) h)
    (g1 : (-2147483648) ≤ F 4 → F 4 ≤ 2147483647 → F 4 ≠ 3 → HJ 34 0 (lv_args 0 [.ref m]) [] h (fun v h' => HJ 15 187 lv (v.toList ++ []) h' Q))
    : HJ 15 175 lv [] h Q := by
  refine hI_al (k := 0) rfl e0 rfl ?_ -- 175
  refine hM_gi M (by decide) rfl rfl rfl (k := 4) (c := 4) (lo := (-2147483648)) (hi := 2147483647) rfl rfl rfl rfl rfl (fun x1 q1 a1 b1 => ?_) -- 176
  refine hM_ic (n := 3) rfl (by decide) rfl (fun x2 q2 => ?_) -- 179
  refine hM_ceq (off := 10) (t := 190) rfl q1 q2 (by decide) rfl (fun c180 => ?_) (fun c180 => ?_) -- 180
  · refine hM_ic (n := 1) rfl (by decide) rfl (fun x3 q3 => ?_) -- 190
    refine hI_go (pc' := 195) (off := 4) rfl (by decide) ?_ -- 191
    refine hM_rb rfl rfl q3 (by omega) (by omega) ?_ -- 195
    exact g0 x3 q3 a1 b1 c180
  · refine hI_al (k := 0) rfl e0 rfl ?_ -- 183
    refine hM_iv M (by decide) rfl rfl (by decide) (as := []) (r := []) rfl rfl (by decide +kernel) rfl (by decide +kernel) rfl rfl rfl rfl rfl ?_ -- 184
    exact g1 a1 b1 c180
theorem s_rl187 {z : Int}  {sx0 : Int32} (sq0 : sx0.toInt = z) 
    (g0 : ∀ x1 : Int32, x1.toInt = 0 → z = 0 → Q (some (.int x1)) h)
    (g1 : ∀ x2 : Int32, x2.toInt = 1 → z ≠ 0 → Q (some (.int x2)) h)
    : HJ 15 187 lv [.int sx0] h Q := by
  refine hM_zeq (off := 7) (t := 194) rfl sq0 (by decide) rfl (fun c187 => ?_) (fun c187 => ?_) -- 187
  · refine hM_ic (n := 0) rfl (by decide) rfl (fun x1 q1 => ?_) -- 194
    refine hM_rb rfl rfl q1 (by omega) (by omega) ?_ -- 195
    exact g0 x1 q1 c187
  · refine hM_ic (n := 1) rfl (by decide) rfl (fun x2 q2 => ?_) -- 190
    refine hI_go (pc' := 195) (off := 4) rfl (by decide) ?_ -- 191
    refine hM_rb rfl rfl q2 (by omega) (by omega) ?_ -- 195
    exact g1 x2 q2 c187
-- an act's numbers, all of them none
theorem l_fl {t : Nat} {z : Int} {xt xz : Int32} {V0 : Nat → Nat → Int} {f : Nat} (hw : d_sub [(105, 1001)] W = true) (qt : xt.toInt = (t : Int)) (t1 : t ≤ 120) (qz : xz.toInt = z) (g : ∀ (h' : MH) (V' : Nat → Nat → Int), MX 103 W ρ m A h0 h' F V' G → (∀ j, V' 1 j = if f ≤ j ∧ j < t then z else V0 1 j) → (∀ K, K ≠ 1 → V' K = V0 K) → Q none h') : ∀ (d i : Nat) (lv : List (Nat × Value)) (h : MH) (V : Nat → Nat → Int) (xi : Int32), i + d = t → f ≤ i → MX 103 W ρ m A h0 h F V G → xi.toInt = (i : Int) → (∀ j, V 1 j = if f ≤ j ∧ j < i then z else V0 1 j) → (∀ K, K ≠ 1 → V K = V0 K) → m_lk lv 0 = some (.ref (A 1)) → m_lk lv 2 = some (.int xt) → m_lk lv 3 = some (.int xz) → m_lk lv 4 = some (.int xi) → HJ 37 10 lv [] h Q := by
  intro d
  induction d with
  | zero =>
    intro i lv h V xi hd hf M qi v o e0 e2 e3 e4
    have : i = t := by omega
    subst this
    exact s_fl10 M e0 e2 qt e3 qz e4 qi (by omega) (by omega) hw (fun _ => g h V M v o) (fun _ _ _ _ _ _ _ _ _ _ _ c => by omega)
  | succ d ih =>
    intro i lv h V xi hd hf M qi v o e0 e2 e3 e4
    refine s_fl10 M e0 e2 qt e3 qz e4 qi (by omega) (by omega) hw (fun c => by omega) (fun h1 V1 f1 x2 q2 lv2 M1 d0 d2 d3 d4 c => ih (i + 1) lv2 h1 V1 x2 (by omega) (by omega) M1 (by omega) (fun j => ?_) (fun K hK => by rw [f1, m_uN _ _ _ _ hK]; exact o K hK) d0 d2 d3 d4)
    have hi : ((i : Nat) : Int).toNat = i := by omega
    rw [f1, m_uE, hi]
    by_cases e : j = i
    · rw [e, m_uE, if_pos (by omega)]
    · rw [m_uN _ _ _ _ e, v j]
      by_cases c1 : f ≤ j ∧ j < i
      · rw [if_pos c1, if_pos (by omega)]
      · rw [if_neg c1, if_neg (by omega)]
def w_ac : List (Nat × Nat) := [(103, 2), (104, 1001), (105, 1001)]
theorem c_begin {g : Nat} {k : Int} {xk : Int32} (M : MX 103 W ρ m A h0 h F V G) (hw : d_sub w_ac W = true) (q2 : F 2 = (g : Int)) (g40 : g < 40) (qk : xk.toInt = k) (gg : ∀ (h' : MH) (F' : Nat → Int) (V' : Nat → Nat → Int), MX 103 W ρ m A h0 h' F' V' G → F' 2 = ((g + 1 : Nat) : Int) → V' 0 = m_u (V 0) g k → (∀ j, V' 1 j = if 3 * g ≤ j ∧ j < 3 * g + 3 then -1 else V 1 j) → Q none h') : HJ 36 0 (lv_args 0 [.ref m, .int xk]) [] h Q := by
  have hg : (F 2).toNat = g := by omega
  refine s_be0 M rfl rfl qk (d_subm hw (by decide +kernel)) (fun _ _ c => by omega) (fun h4 V4 f4 x7 q7 x12 q12 x13 q13 M4 _ _ _ => s_fl0 M4 rfl rfl q7 rfl q12 rfl q13 (fun x1 z1 q1 a1 b1 _ => c_rc (by omega) (by omega) (by omega) (s_fl7 M4 rfl rfl q7 rfl q12 rfl q13 (fun lv1 d0 d1 d2 d3 d4 => ?_))))
  refine l_fl (t := 3 * g + 3) (f := 3 * g) (V0 := V4) (d_subm hw (by decide +kernel)) (by omega) (by omega) q13 (fun h5 V5 M5 v5 o5 => ?_) 3 (3 * g) lv1 h4 V4 x7 (by omega) (Nat.le_refl _) M4 (by omega) (fun j => by rw [if_neg (by omega)]) (fun _ _ => rfl) d0 d2 d3 d4
  refine s_be41 M5 rfl (by omega) (d_subm hw (by decide +kernel)) (fun h6 F6 f6 M6 _ _ => gg h6 F6 V5 M6 (by rw [f6, m_uE]; omega) ?_ (fun j => ?_))
  · rw [o5 0 (by decide), f4, m_uE, hg]
  · rw [v5 j, f4, m_uN _ _ _ _ (by decide)]
theorem c_tell {g i : Nat} {v : Int} {xi xv : Int32} (M : MX 103 W ρ m A h0 h F V G) (hw : d_sub w_ac W = true) (q2 : F 2 = (g : Int)) (g1 : 1 ≤ g) (qi : xi.toInt = (i : Int)) (i3 : i < 3) (qv : xv.toInt = v) (gg : ∀ (h' : MH) (V' : Nat → Nat → Int), MX 103 W ρ m A h0 h' F V' G → V' = m_u V 1 (m_u (V 1) (3 * (g - 1) + i) v) → Q none h') : HJ 39 0 (lv_args 0 [.ref m, .int xi, .int xv]) [] h Q := by
  have hj : ((F 2 - 1) * 3 + (i : Int)).toNat = 3 * (g - 1) + i := by omega
  exact s_tl M rfl rfl qi rfl qv (d_subm hw (by decide +kernel)) (fun _ _ c => by omega) (fun _ _ _ c => by omega) (fun _ _ _ _ c => by omega) (fun h9 V9 f9 M9 _ _ _ _ _ => gg h9 V9 M9 (by rw [hj] at f9; exact f9))
theorem c_gn {s : Nat} (M : MX 106 W ρ m A h0 h F V G) (hw : d_sub [(106, 7), (106, 8)] W = true) (q2 : F 2 = (s : Int)) (g : ∀ (x : Int32) (h' : MH) (F' : Nat → Int), x.toInt = 0 → MX 106 W ρ m A h0 h' F' V G → F' 7 = 1 → F' 8 = (s : Int) → (∀ K, K ≠ 7 → K ≠ 8 → F' K = F K) → Q (some (.int x)) h') : HJ 34 0 (lv_args 0 [.ref m]) [] h Q :=
  s_gn M rfl hw (fun h2 F2 f2 h4 F4 f4 x5 q5 M4 _ _ => g x5 h4 F4 q5 M4 (by rw [f4, m_uN _ _ _ _ (by decide), f2, m_uE]) (by rw [f4, m_uE]; exact q2) (fun K a b => by rw [f4, m_uN _ _ _ _ b, f2, m_uN _ _ _ _ a]))
theorem c_note {w p : Int} {xw xp : Int32} (M : MX 106 W ρ m A h0 h F V G) (hw : d_sub [(106, 7), (106, 8)] W = true) (qw : xw.toInt = w) (qp : xp.toInt = p) (g : ∀ (h' : MH) (F' : Nat → Int), MX 106 W ρ m A h0 h' F' V G → F' 7 = (if F 7 = 0 then w else F 7) → F' 8 = (if F 7 = 0 then p else F 8) → (∀ K, K ≠ 7 → K ≠ 8 → F' K = F K) → Q none h') : HJ 35 0 (lv_args 0 [.ref m, .int xw, .int xp]) [] h Q :=
  s_nto M rfl rfl qw rfl qp (by rw [← qw]; exact g_iT _) (by rw [← qp]; exact g_iT _) hw (fun _ _ c => g h F M (by rw [if_neg c]) (by rw [if_neg c]) (fun _ _ _ => rfl)) (fun h2 F2 f2 h3 F3 f3 M3 _ _ c => g h3 F3 M3 (by rw [f3, m_uN _ _ _ _ (by decide), f2, m_uE, if_pos c]) (by rw [f3, m_uE, if_pos c]) (fun K a b => by rw [f3, m_uN _ _ _ _ b, f2, m_uN _ _ _ _ a]))
end
end
section
-- A LINE, AS THE CLASS READS IT
def ar_ok (Fa : Nat → Int) (Va : Nat → Nat → Int) (g : Nat) (t : Nat → Int) : Prop := Fa 2 = (((if g ≤ 40 then g else 40) : Nat) : Int) ∧ ∀ k, k < 40 → k < g → Va 0 k = t (4 * k + 1) ∧ ∀ i, i < 3 → Va 1 (3 * k + i) = t (4 * k + 2 + i)
theorem ar_up {Fa : Nat → Int} {Va : Nat → Nat → Int} {g : Nat} {t : Nat → Int} (h : ar_ok Fa Va g t) (g40 : 40 ≤ g) : ar_ok Fa Va (g + 1) t := by
  refine ⟨?_, fun k hk _ => h.2 k hk (by omega)⟩
  have e := h.1
  by_cases c : g ≤ 40
  · have c2 : g = 40 := by omega
    subst c2
    exact e.trans rfl
  · rw [if_neg c] at e
    rw [if_neg (show ¬ g + 1 ≤ 40 by omega)]
    exact e
theorem ar_beg {Fa Fa' : Nat → Int} {Va Va' : Nat → Nat → Int} {g : Nat} {v : Int} {t : Nat → Int} (h : ar_ok Fa Va g t) (g40 : g < 40) (f2 : Fa' 2 = ((g + 1 : Nat) : Int)) (v0 : Va' 0 = m_u (Va 0) g v) (v1 : ∀ j, Va' 1 j = if 3 * g ≤ j ∧ j < 3 * g + 3 then -1 else Va 1 j) : ar_ok Fa' Va' (g + 1) (rd_bt g v t) := by
  refine ⟨by rw [f2, if_pos (by omega)], fun k hk kg => ?_⟩
  unfold rd_bt
  by_cases e : k = g
  · subst e
    refine ⟨?_, fun i hi => ?_⟩
    · rw [v0, m_uE, m_uN _ _ _ _ (by omega), m_uN _ _ _ _ (by omega), m_uN _ _ _ _ (by omega), m_uE]
    · rw [v1, if_pos (by omega)]
      rcases (show i = 0 ∨ i = 1 ∨ i = 2 by omega) with rfl | rfl | rfl
      · rw [m_uN _ _ _ _ (by omega), m_uN _ _ _ _ (by omega), show 4 * k + 2 + 0 = 4 * k + 2 from rfl, m_uE]
      · rw [m_uN _ _ _ _ (by omega), show 4 * k + 2 + 1 = 4 * k + 3 from rfl, m_uE]
      · rw [show 4 * k + 2 + 2 = 4 * k + 4 from rfl, m_uE]
  · obtain ⟨h1, h2⟩ := h.2 k hk (by omega)
    refine ⟨?_, fun i hi => ?_⟩
    · rw [v0, m_uN _ _ _ _ e, h1, m_uN _ _ _ _ (by omega), m_uN _ _ _ _ (by omega), m_uN _ _ _ _ (by omega), m_uN _ _ _ _ (by omega)]
    · rw [v1, if_neg (by omega), h2 i hi, m_uN _ _ _ _ (by omega), m_uN _ _ _ _ (by omega), m_uN _ _ _ _ (by omega), m_uN _ _ _ _ (by omega)]
theorem ar_num {Fa : Nat → Int} {Va : Nat → Nat → Int} {g i : Nat} {v : Int} {t : Nat → Int} (h : ar_ok Fa Va g t) (g1 : 1 ≤ g) (g40 : g ≤ 40) (hi : i < 3) : ar_ok Fa (m_u Va 1 (m_u (Va 1) (3 * (g - 1) + i) v)) g (m_u t (4 * (g - 1) + 2 + i) v) := by
  refine ⟨h.1, fun k hk kg => ?_⟩
  obtain ⟨h1, h2⟩ := h.2 k hk kg
  refine ⟨?_, fun j hj => ?_⟩
  · rw [m_uN _ _ _ _ (by decide), h1, m_uN _ _ _ _ (by omega)]
  · rw [m_uE]
    by_cases e : k = g - 1 ∧ j = i
    · obtain ⟨e1, e2⟩ := e
      subst e1 e2
      rw [m_uE, m_uE]
    · rw [m_uN _ _ _ _ (by omega), h2 j hj, m_uN _ _ _ _ (by omega)]
theorem rd_numsP {T : Nat → Int} {n : Nat} : ∀ (l : List Int) (i : Nat) (S : RLS), ls_p S ≤ n → ls_p S ≤ ls_p (rd_nums T n l i S).2 ∧ ls_p (rd_nums T n l i S).2 ≤ n
  | [], _, S, h => ⟨Nat.le_refl _, h⟩
  | x :: r, i, S, h => by
    have tb := (rd_tkB (T := T) (n := n) (p := ls_p S) h).1
    rw [rd_nums]
    split
    · have e := (rd_numE (l := x) (i := i) (q := rd_tk T n (ls_p S)) (S := S)).1
      have := rd_numsP (T := T) r (i + 1) (rd_num x i (rd_tk T n (ls_p S)) S) (by rw [e]; exact tb.2.2)
      rw [e] at this
      omega
    · show ls_p S ≤ rt_b (rd_tk T n (ls_p S)) ∧ rt_b (rd_tk T n (ls_p S)) ≤ n
      omega
-- what stands still while a text is read
def rd_env (W : List (Nat × Nat)) (ρ : Nat → Nat) (h0 : MH) : Prop := (∀ k, k < 6 → ρ (2 + k) = 2 ∧ ρ (8 + k) = 3) ∧ ρ 1 = 1 ∧ d_no [(2, 1001), (2, 1002), (3, 1001), (3, 1002)] W = true ∧ d_no [(1, 1001), (1, 1002)] W = true ∧ sb_ok h0 ∧ lim_ok h0
theorem env_at {W : List (Nat × Nat)} {ρ : Nat → Nat} {h0 h : MH} (H : rd_env W ρ h0) (f : FS ρ W h0 h) : sb_ok h ∧ lim_ok h := ⟨sb_fs H.1 H.2.2.1 f H.2.2.2.2.1, lim_fs H.2.1 H.2.2.2.1 f H.2.2.2.2.2⟩
section
variable {lv : List (Nat × Value)} {Q : Option Value → MH → Prop} {W : List (Nat × Nat)} {ρ : Nat → Nat} {m a : Nat} {A B : Nat → Nat} {h0 h : MH} {F Fa : Nat → Int} {V Va : Nat → Nat → Int} {G Ga : Nat → Nat → Int64}
def w_rd : List (Nat × Nat) := [(106, 2), (106, 3), (106, 4), (106, 5), (106, 6), (106, 7), (106, 8), (103, 2), (104, 1001), (105, 1001)]
-- both objects, told together
theorem c_tok2 {n p : Nat} (H : rd_env W ρ h0) (M : MX 106 W ρ m A h0 h F V G) (MA : MX 103 W ρ a B h0 h Fa Va Ga) (hw : d_sub w_rd W = true) (q1 : F 1 = (n : Int)) (q3 : F 3 = (p : Int)) (pn : p ≤ n) (g : ∀ (h' : MH) (F' : Nat → Int), MX 106 W ρ m A h0 h' F' V G → MX 103 W ρ a B h0 h' Fa Va Ga → F' 2 = (rt_s (rd_tk (V 0) n p) : Int) → F' 3 = (rt_b (rd_tk (V 0) n p) : Int) → F' 4 = rt_t (rd_tk (V 0) n p) → (F' 4 = 1 ∨ F' 4 = 2 → F' 5 = rt_v (rd_tk (V 0) n p)) → (∀ K, K ≠ 2 → K ≠ 3 → K ≠ 4 → K ≠ 5 → F' K = F K) → Q none h') : HJ 16 0 (lv_args 0 [.ref m]) [] h Q :=
  c_nt (MX.again M w_rt) (by decide +kernel) (tl_mk H.1 (by decide +kernel) (env_at H M.1.2.2).1) q1 q3 pn (fun h' F' M' a1 a2 a3 a4 a5 => g h' F' (M.re M' (d_subm hw (by decide +kernel))) (MA.stay (by decide) M'.1.1 M'.1.2.2 (d_subm hw (by decide +kernel)) (by decide +kernel)) a1 a2 a3 a4 a5)
theorem c_gn2 {s : Nat} (M : MX 106 W ρ m A h0 h F V G) (MA : MX 103 W ρ a B h0 h Fa Va Ga) (hw : d_sub w_rd W = true) (q2 : F 2 = (s : Int)) (g : ∀ (x : Int32) (h' : MH) (F' : Nat → Int), x.toInt = 0 → MX 106 W ρ m A h0 h' F' V G → MX 103 W ρ a B h0 h' Fa Va Ga → F' 7 = 1 → F' 8 = (s : Int) → (∀ K, K ≠ 7 → K ≠ 8 → F' K = F K) → Q (some (.int x)) h') : HJ 34 0 (lv_args 0 [.ref m]) [] h Q :=
  c_gn (MX.again M [(106, 7), (106, 8)]) (by decide +kernel) q2 (fun x h' F' q M' a1 a2 a3 => g x h' F' q (M.re M' (d_subm hw (by decide +kernel))) (MA.stay (by decide) M'.1.1 M'.1.2.2 (d_subm hw (by decide +kernel)) (by decide +kernel)) a1 a2 a3)
theorem c_note2 {w p : Int} {xw xp : Int32} (M : MX 106 W ρ m A h0 h F V G) (MA : MX 103 W ρ a B h0 h Fa Va Ga) (hw : d_sub w_rd W = true) (qw : xw.toInt = w) (qp : xp.toInt = p) (g : ∀ (h' : MH) (F' : Nat → Int), MX 106 W ρ m A h0 h' F' V G → MX 103 W ρ a B h0 h' Fa Va Ga → F' 7 = (if F 7 = 0 then w else F 7) → F' 8 = (if F 7 = 0 then p else F 8) → (∀ K, K ≠ 7 → K ≠ 8 → F' K = F K) → Q none h') : HJ 35 0 (lv_args 0 [.ref m, .int xw, .int xp]) [] h Q :=
  c_note (MX.again M [(106, 7), (106, 8)]) (by decide +kernel) qw qp (fun h' F' M' a1 a2 a3 => g h' F' (M.re M' (d_subm hw (by decide +kernel))) (MA.stay (by decide) M'.1.1 M'.1.2.2 (d_subm hw (by decide +kernel)) (by decide +kernel)) a1 a2 a3)
theorem c_beg2 {g : Nat} {k : Int} {xk : Int32} (M : MX 106 W ρ m A h0 h F V G) (MA : MX 103 W ρ a B h0 h Fa Va Ga) (hw : d_sub w_rd W = true) (q2 : Fa 2 = (g : Int)) (g40 : g < 40) (qk : xk.toInt = k) (gg : ∀ (h' : MH) (Fa' : Nat → Int) (Va' : Nat → Nat → Int), MX 106 W ρ m A h0 h' F V G → MX 103 W ρ a B h0 h' Fa' Va' Ga → Fa' 2 = ((g + 1 : Nat) : Int) → Va' 0 = m_u (Va 0) g k → (∀ j, Va' 1 j = if 3 * g ≤ j ∧ j < 3 * g + 3 then -1 else Va 1 j) → Q none h') : HJ 36 0 (lv_args 0 [.ref a, .int xk]) [] h Q :=
  c_begin (MX.again MA w_ac) (by decide +kernel) q2 g40 qk (fun h' F' V' M' a1 a2 a3 => gg h' F' V' (M.stay (by decide) M'.1.1 M'.1.2.2 (d_subm hw (by decide +kernel)) (by decide +kernel)) (MA.re M' (d_subm hw (by decide +kernel))) a1 a2 a3)
theorem c_tell2 {g i : Nat} {v : Int} {xi xv : Int32} (M : MX 106 W ρ m A h0 h F V G) (MA : MX 103 W ρ a B h0 h Fa Va Ga) (hw : d_sub w_rd W = true) (q2 : Fa 2 = (g : Int)) (g1 : 1 ≤ g) (qi : xi.toInt = (i : Int)) (i3 : i < 3) (qv : xv.toInt = v) (gg : ∀ h' : MH, MX 106 W ρ m A h0 h' F V G → MX 103 W ρ a B h0 h' Fa (m_u Va 1 (m_u (Va 1) (3 * (g - 1) + i) v)) Ga → Q none h') : HJ 39 0 (lv_args 0 [.ref a, .int xi, .int xv]) [] h Q :=
  c_tell (MX.again MA w_ac) (by decide +kernel) q2 g1 qi i3 qv (fun h' V' M' e => gg h' (M.stay (by decide) M'.1.1 M'.1.2.2 (d_subm hw (by decide +kernel)) (by decide +kernel)) (by rw [← e]; exact MA.re M' (d_subm hw (by decide +kernel))))
-- the reading's state, as the class has it
def RR (W : List (Nat × Nat)) (ρ : Nat → Nat) (m : Nat) (A : Nat → Nat) (a : Nat) (B : Nat → Nat) (h0 : MH) (V : Nat → Nat → Int) (G Ga : Nat → Nat → Int64) (n : Nat) (S : RLS) (h : MH) : Prop := ∃ (F Fa : Nat → Int) (Va : Nat → Nat → Int), (MX 106 W ρ m A h0 h F V G ∧ MX 103 W ρ a B h0 h Fa Va Ga) ∧ (F 1 = (n : Int) ∧ F 3 = (ls_p S : Int) ∧ F 6 = (ls_g S : Int) ∧ F 7 = ls_f S ∧ F 8 = ls_l S) ∧ ar_ok Fa Va (ls_g S) (ls_t S) ∧ ls_p S ≤ n ∧ ls_g S ≤ ls_p S
-- numbers
theorem l_nums {n k : Nat} {xk xt : Int32} {R : Bool × RLS} (H : rd_env W ρ h0) (hw : d_sub w_rd W = true) (k6 : k < 6) (qk : xk.toInt = (k : Int)) (n6 : n ≤ 600) (gT : R.1 = true → ∀ (lv : List (Nat × Value)) (h : MH), RR W ρ m A a B h0 V G Ga n R.2 h → m_lk lv 0 = some (.ref m) → m_lk lv 1 = some (.ref a) → HJ 15 171 lv [] h Q) (gF : R.1 = false → ∀ (x : Int32) (h : MH), x.toInt = 0 → RR W ρ m A a B h0 V G Ga n R.2 h → Q (some (.int x)) h) : ∀ (d i : Nat) (lv : List (Nat × Value)) (h : MH) (S : RLS) (xi : Int32), i + d = 3 → RR W ρ m A a B h0 V G Ga n S h → (xt.toInt = 0 ↔ ls_g S ≤ 40) → 1 ≤ ls_g S → rd_nums (V 0) n ((rd_lim (k : Int)).drop i) i S = R → xi.toInt = (i : Int) → m_lk lv 0 = some (.ref m) → m_lk lv 1 = some (.ref a) → m_lk lv 2 = some (.int xk) → m_lk lv 3 = some (.int xt) → m_lk lv 4 = some (.int xi) → HJ 15 88 lv [] h Q := by
  intro d
  induction d with
  | zero =>
    intro i lv h S xi hd RS tg g1 eR qi e0 e1 e2 e3 e4
    have i3 : i = 3 := by omega
    subst i3
    rw [lm_3 k6] at eR
    obtain ⟨F, Fa, Va, ⟨M, MA⟩, c1, c2, c3, c4⟩ := id RS
    have RS : RR W ρ m A a B h0 V G Ga n R.2 h := by rw [← eR]; exact RS
    exact s_rl88 M e0 e1 MA.1.2.1 e2 qk e3 rfl e4 qi (env_at H M.1.2.2).2 (by omega) (by omega) (by omega) (fun _ => gT (by rw [← eR]; rfl) lv h RS e0 e1) (fun c _ => by omega) (fun c _ => by omega)
  | succ d ih =>
    intro i lv h S xi hd RS tg g1 eR qi e0 e1 e2 e3 e4
    obtain ⟨F, Fa, Va, ⟨M, MA⟩, ⟨f1, f3, f6, f7, f8⟩, ao, pn, gp⟩ := id RS
    have hk3 : ((k : Int) * 3 + (i : Int)).toNat = 3 * k + i := by omega
    refine s_rl88 M e0 e1 MA.1.2.1 e2 qk e3 rfl e4 qi (env_at H M.1.2.2).2 (by omega) (by omega) (by omega) (fun c => by omega) (fun _ c => ?_) (fun _ c => ?_)
    · rw [hk3] at c
      have hL := (lm_lim k6 (show i < 3 by omega)).resolve_right (fun z => z.1 c)
      rw [hL.2] at eR
      exact gT (by rw [← eR]; rfl) lv h (by rw [← eR]; exact RS) e0 e1
    · rw [hk3] at c
      have hL := ((lm_lim k6 (show i < 3 by omega)).resolve_left (fun z => c z.1)).2
      rw [hL, rd_nums] at eR
      have tb := rd_tkB (T := V 0) (n := n) (p := ls_p S) pn
      refine c_tok2 H M MA hw f1 f3 pn (fun h1 F1 M1 MA1 a2 a3 a4 a5 a6 => ?_)
      have b1 : F1 1 = (n : Int) := by rw [a6 1 (by decide) (by decide) (by decide) (by decide)]; exact f1
      have b6 : F1 6 = (ls_g S : Int) := by rw [a6 6 (by decide) (by decide) (by decide) (by decide)]; exact f6
      have b7 : F1 7 = ls_f S := by rw [a6 7 (by decide) (by decide) (by decide) (by decide)]; exact f7
      have b8 : F1 8 = ls_l S := by rw [a6 8 (by decide) (by decide) (by decide) (by decide)]; exact f8
      generalize hq : rd_tk (V 0) n (ls_p S) = q at eR a2 a3 a4 a5 tb
      obtain ⟨⟨t1, t2, t3⟩, t4, t5, t6, t7, t8⟩ := tb
      -- behind a number that is no number
      have nonum : rt_t q ≠ 2 → ∀ (x : Int32) (h2 : MH) (F2 : Nat → Int), x.toInt = 0 → MX 106 W ρ m A h0 h2 F2 V G → MX 103 W ρ a B h0 h2 Fa Va Ga → F2 7 = 1 → F2 8 = (rt_s q : Int) → (∀ K, K ≠ 7 → K ≠ 8 → F2 K = F1 K) → Q (some (.int x)) h2 := fun cq x h2 F2 qx M2 MA2 d7 d8 dd => by
        rw [if_neg cq] at eR
        have hR : R.1 = false ∧ R.2 = ls_bad (rt_s q) (ls_at (rt_b q) S) := by rw [← eR]; exact ⟨rfl, rfl⟩
        refine gF hR.1 x h2 qx ?_
        rw [hR.2]
        exact ⟨F2, Fa, Va, ⟨M2, MA2⟩, ⟨by rw [dd 1 (by decide) (by decide)]; exact b1, by rw [dd 3 (by decide) (by decide)]; exact a3, by rw [dd 6 (by decide) (by decide)]; exact b6, d7, d8⟩, ao, t3, by show ls_g S ≤ rt_b q; omega⟩
      -- behind a number, its place noted or not
      have num : rt_t q = 2 → ∀ (h2 : MH) (F2 : Nat → Int), MX 106 W ρ m A h0 h2 F2 V G → MX 103 W ρ a B h0 h2 Fa Va Ga → F2 7 = ls_f (rd_num (lm_at (3 * k + i)) i q S) → F2 8 = ls_l (rd_num (lm_at (3 * k + i)) i q S) → (∀ K, K ≠ 7 → K ≠ 8 → F2 K = F1 K) → HJ 15 151 lv [] h2 Q := fun cq h2 F2 M2 MA2 d7 d8 dd => by
        rw [if_pos cq] at eR
        obtain ⟨n1, n2, n3, -, -⟩ := rd_numE (l := lm_at (3 * k + i)) (i := i) (q := q) (S := S)
        have v5 : F2 5 = rt_v q := by rw [dd 5 (by decide) (by decide)]; exact a5 (Or.inr (by rw [a4]; exact cq))
        have go : ∀ (h3 : MH) (Va' : Nat → Nat → Int), MX 106 W ρ m A h0 h3 F2 V G → MX 103 W ρ a B h0 h3 Fa Va' Ga → ar_ok Fa Va' (ls_g S) (ls_t (rd_num (lm_at (3 * k + i)) i q S)) → HJ 15 165 lv [] h3 Q := fun h3 Va' M3 MA3 ao3 =>
          s_rl165 M3 e0 e1 MA3.1.2.1 e2 qk e3 rfl e4 qi (by omega) (by omega) (fun x1 q1 lv1 d0 d1 d2 d3 d4 => ih (i + 1) lv1 h3 (rd_num (lm_at (3 * k + i)) i q S) x1 (by omega) ⟨F2, Fa, Va', ⟨M3, MA3⟩, ⟨by rw [dd 1 (by decide) (by decide)]; exact b1, by rw [dd 3 (by decide) (by decide), n1]; exact a3, by rw [dd 6 (by decide) (by decide), n2]; exact b6, d7, d8⟩, by rw [n2]; exact ao3, by rw [n1]; exact t3, by rw [n1, n2]; omega⟩ (by rw [n2]; exact tg) (by rw [n2]; exact g1) eR (by omega) d0 d1 d2 d3 d4)
        refine s_rl151 M2 e0 e1 MA2.1.2.1 e2 qk e3 rfl e4 qi (fun ct => ?_) (fun x1 q1 ct _ _ => ?_)
        · have cg : ¬ ls_g S ≤ 40 := fun z => ct (tg.mpr z)
          exact go h2 Va M2 MA2 (by rw [n3, if_neg cg]; exact ao)
        · have cg : ls_g S ≤ 40 := tg.mp ct
          refine c_tell2 M2 MA2 hw (by rw [ao.1, if_pos cg]) g1 qi (by omega) q1 (fun h3 M3 MA3 => ?_)
          rw [v5] at MA3
          exact go h3 _ M3 MA3 (by rw [n3, if_pos cg]; exact ar_num ao g1 cg (by omega))
      obtain ⟨-, -, -, n4, n5⟩ := rd_numE (l := lm_at (3 * k + i)) (i := i) (q := q) (S := S)
      refine s_rl112 M1 e0 e1 MA1.1.2.1 e2 qk e3 rfl e4 qi (env_at H M1.1.2.2).2 (by omega) (by omega) (by omega) (by omega) (fun _ _ c4 _ _ c5 => ?_) (fun x8 q8 x9 q9 _ _ c4 _ _ c5 _ _ => ?_) (fun _ _ c4 => ?_)
      · rw [hk3] at c5
        have cq : rt_t q = 2 := by omega
        have v5 := a5 (Or.inr c4)
        exact num cq h1 F1 M1 MA1 (by rw [n4, if_neg (fun z => by omega)]; exact b7) (by rw [n5, if_neg (fun z => by omega)]; exact b8) (fun _ _ _ => rfl)
      · rw [hk3] at c5
        have cq : rt_t q = 2 := by omega
        have v5 := a5 (Or.inr c4)
        refine c_note2 M1 MA1 hw q8 (q9.trans a2) (fun h2 F2 M2 MA2 d7 d8 dd => num cq h2 F2 M2 MA2 ?_ ?_ dd)
        · rw [d7, n4, b7]
          by_cases ef : ls_f S = 0
          · rw [if_pos ef, if_pos ⟨by omega, ef⟩]
          · rw [if_neg ef, if_neg (fun z => ef z.2)]
        · rw [d8, n5, b7, b8]
          by_cases ef : ls_f S = 0
          · rw [if_pos ef, if_pos ⟨by omega, ef⟩]
          · rw [if_neg ef, if_neg (fun z => ef z.2)]
      · exact c_gn2 M1 MA1 hw a2 (fun x h2 F2 qx M2 MA2 d7 d8 dd => s_rl124 qx (by omega) (by omega) (nonum (by omega) x h2 F2 qx M2 MA2 d7 d8 dd))
-- a line
theorem c_line {n : Nat} {S : RLS} (H : rd_env W ρ h0) (hw : d_sub w_rd W = true) (n6 : n ≤ 600) (RS : RR W ρ m A a B h0 V G Ga n S h) (g : ∀ (x : Int32) (h' : MH), (x.toInt = 1 ↔ (rd_line (V 0) n S).1 = 2) → (0 ≤ x.toInt ∧ x.toInt ≤ 1) → RR W ρ m A a B h0 V G Ga n (rd_line (V 0) n S).2 h' → ((rd_line (V 0) n S).1 = 2 → ls_p S < ls_p (rd_line (V 0) n S).2) → Q (some (.int x)) h') : HJ 15 0 (lv_args 0 [.ref m, .ref a]) [] h Q := by
  obtain ⟨F, Fa, Va, ⟨M, MA⟩, ⟨f1, f3, f6, f7, f8⟩, ao, pn, gp⟩ := id RS
  have tb := rd_tkB (T := V 0) (n := n) (p := ls_p S) pn
  refine s_rl0 M rfl rfl MA.1.2.1 (c_tok2 H M MA hw f1 f3 pn (fun h1 F1 M1 MA1 a2 a3 a4 a5 a6 => ?_))
  have b1 : F1 1 = (n : Int) := by rw [a6 1 (by decide) (by decide) (by decide) (by decide)]; exact f1
  have b6 : F1 6 = (ls_g S : Int) := by rw [a6 6 (by decide) (by decide) (by decide) (by decide)]; exact f6
  have b7 : F1 7 = ls_f S := by rw [a6 7 (by decide) (by decide) (by decide) (by decide)]; exact f7
  have b8 : F1 8 = ls_l S := by rw [a6 8 (by decide) (by decide) (by decide) (by decide)]; exact f8
  unfold rd_line at g
  generalize hq : rd_tk (V 0) n (ls_p S) = q at g a2 a3 a4 a5 tb
  obtain ⟨⟨t1, t2, t3⟩, t4, t5, t6, t7, t8⟩ := tb
  have bad : (rt_t q ≠ 0 ∧ ¬ (rt_t q = 1 ∧ 0 ≤ rt_v q)) → ∀ (x : Int32) (h2 : MH) (F2 : Nat → Int), x.toInt = 0 → MX 106 W ρ m A h0 h2 F2 V G → MX 103 W ρ a B h0 h2 Fa Va Ga → F2 7 = 1 → F2 8 = (rt_s q : Int) → (∀ K, K ≠ 7 → K ≠ 8 → F2 K = F1 K) → Q (some (.int x)) h2 := fun cq x h2 F2 qx M2 MA2 d7 d8 dd => by
    rw [if_neg cq.1, if_neg cq.2] at g
    exact g x h2 ⟨fun z => by omega, fun z => absurd (show (1 : Nat) = 2 from z) (by decide)⟩ (by omega) ⟨F2, Fa, Va, ⟨M2, MA2⟩, ⟨by rw [dd 1 (by decide) (by decide)]; exact b1, by rw [dd 3 (by decide) (by decide)]; exact a3, by rw [dd 6 (by decide) (by decide)]; exact b6, d7, d8⟩, ao, t3, by show ls_g S ≤ rt_b q; omega⟩ (fun z => absurd (show (1 : Nat) = 2 from z) (by decide))
  -- behind a word that names a kind
  have word : rt_t q = 1 → 0 ≤ rt_v q → ∀ (lv : List (Nat × Value)) (h2 : MH) (xk xt : Int32), RR W ρ m A a B h0 V G Ga n (rd_beg q S) h2 → (xt.toInt = 0 ↔ ls_g (rd_beg q S) ≤ 40) → xk.toInt = rt_v q → m_lk lv 0 = some (.ref m) → m_lk lv 1 = some (.ref a) → m_lk lv 2 = some (.int xk) → m_lk lv 3 = some (.int xt) → HJ 15 85 lv [] h2 Q := fun c1 c2 lv h2 xk xt R2 tg qk e0 e1 e2 e3 => by
    obtain ⟨v1, v2, v3⟩ := t7 c1
    obtain ⟨n1, n2, -, -, -⟩ := rd_begE (q := q) (S := S)
    obtain ⟨k, hk⟩ : ∃ k : Nat, rt_v q = (k : Int) := ⟨(rt_v q).toNat, by omega⟩
    have t1' := t4 (by omega)
    rw [if_neg (by omega), if_pos ⟨c1, c2⟩, hk] at g
    obtain ⟨F2, Fa2, Va2, ⟨M2, MA2⟩, -⟩ := id R2
    refine s_rl85 M2 e0 e1 MA2.1.2.1 e2 rfl e3 rfl (fun x1 q1 lv2 d0 d1 d2 d3 d4 => ?_)
    have pr := rd_numsP (T := V 0) (n := n) (rd_lim (k : Int)) 0 (rd_beg q S) (by rw [n1]; exact t3)
    refine l_nums (k := k) (xt := xt) (R := rd_nums (V 0) n (rd_lim (k : Int)) 0 (rd_beg q S)) H hw (by omega) (qk.trans hk) n6 (fun hT lv3 h3 R3 e0 e1 => ?_) (fun hF x h3 qx R3 => ?_) 3 0 lv2 h2 (rd_beg q S) x1 (by omega) R2 tg (by rw [n2]; omega) rfl q1 d0 d1 d2 d3 d4
    · rw [if_pos hT] at g
      unfold rd_mark at g
      generalize hS : (rd_nums (V 0) n (rd_lim (k : Int)) 0 (rd_beg q S)).2 = S3 at g R3 pr
      obtain ⟨F3, Fa3, Va3, ⟨M3, MA3⟩, ⟨p1, p3, p6, p7, p8⟩, ao3, pn3, gp3⟩ := R3
      have tb3 := rd_tkB (T := V 0) (n := n) (p := ls_p S3) pn3
      refine s_rl171 M3 e0 e1 MA3.1.2.1 (c_tok2 H M3 MA3 hw p1 p3 pn3 (fun h4 F4 M4 MA4 r2 r3 r4 r5 r6 => ?_))
      generalize hq3 : rd_tk (V 0) n (ls_p S3) = q3 at g r2 r3 r4 r5 tb3
      obtain ⟨⟨u1, u2, u3⟩, u4, -⟩ := tb3
      have c1 : F4 1 = (n : Int) := by rw [r6 1 (by decide) (by decide) (by decide) (by decide)]; exact p1
      have c6 : F4 6 = (ls_g S3 : Int) := by rw [r6 6 (by decide) (by decide) (by decide) (by decide)]; exact p6
      have c7 : F4 7 = ls_f S3 := by rw [r6 7 (by decide) (by decide) (by decide) (by decide)]; exact p7
      have c8 : F4 8 = ls_l S3 := by rw [r6 8 (by decide) (by decide) (by decide) (by decide)]; exact p8
      refine s_rl175 M4 e0 e1 MA4.1.2.1 (fun x3 q3' _ _ c => ?_) (fun _ _ c => ?_)
      · rw [if_pos (by omega)] at g
        refine g x3 h4 ⟨fun _ => rfl, fun _ => q3'⟩ (by omega) ⟨F4, Fa3, Va3, ⟨M4, MA4⟩, ⟨c1, r3, c6, c7, c8⟩, ao3, u3, by show ls_g S3 ≤ rt_b q3; omega⟩ (fun _ => ?_)
        show ls_p S < rt_b q3
        omega
      · rw [if_neg (by omega)] at g
        exact c_gn2 M4 MA4 hw r2 (fun x h5 F5 qx M5 MA5 d7 d8 dd => s_rl187 (z := x.toInt) rfl (fun y qy _ => g y h5 ⟨fun z => by omega, fun z => absurd (show (1 : Nat) = 2 from z) (by decide)⟩ (by omega) ⟨F5, Fa3, Va3, ⟨M5, MA5⟩, ⟨by rw [dd 1 (by decide) (by decide)]; exact c1, by rw [dd 3 (by decide) (by decide)]; exact r3, by rw [dd 6 (by decide) (by decide)]; exact c6, d7, d8⟩, ao3, u3, by show ls_g S3 ≤ rt_b q3; omega⟩ (fun z => absurd (show (1 : Nat) = 2 from z) (by decide))) (fun y qy c => by omega))
    · rw [if_neg (by rw [hF]; decide)] at g
      exact g x h3 ⟨fun z => by omega, fun z => absurd (show (1 : Nat) = 2 from z) (by decide)⟩ (by omega) R3 (fun z => absurd (show (1 : Nat) = 2 from z) (by decide))
  obtain ⟨m1, m2, m3, m4, m5⟩ := rd_begE (q := q) (S := S)
  refine s_rl4 (MX.again M1 [(106, 6)]) rfl rfl MA1.1.2.1 (by omega) (by omega) (by decide +kernel) (fun _ _ c0 c1 => ?_) (fun x6 q6 x10 q10 h15 F15 f15 lv11 M15 d0 d1 d2 d3 _ _ c0 c1 _ _ c5 _ _ c6 => ?_) (fun x6 q6 x10 q10 h15 F15 f15 lv11 M15 d0 d1 d2 d3 _ _ c0 c1 _ _ c5 _ _ c6 => ?_) (fun _ _ c0 c1 _ _ c5 => ?_) (fun x22 q22 _ _ c0 => ?_)
  · exact c_gn2 M1 MA1 hw a2 (fun x h2 F2 qx M2 MA2 d7 d8 dd => s_rl33 qx (by omega) (by omega) (bad ⟨by omega, fun z => by omega⟩ x h2 F2 qx M2 MA2 d7 d8 dd))
  · have v5 := a5 (Or.inl c1)
    have cv := (t7 (by omega)).1
    have MA6 := MA1.stay (by decide) M15.1.1 M15.1.2.2 (d_subm hw (by decide +kernel)) (by decide +kernel)
    have M6 := M1.re M15 (d_subm hw (by decide +kernel))
    have g40 : ls_g S < 40 := by omega
    refine s_rl64 M6 d0 d1 MA6.1.2.1 d2 q6 d3 q10 (fun _ => c_beg2 M6 MA6 hw (by rw [ao.1, if_pos (by omega)]) g40 (q6.trans v5) (fun h7 Fa7 Va7 M7 MA7 y2 y0 y1 => word (by omega) (by omega) lv11 h7 x6 x10 ⟨F15, Fa7, Va7, ⟨M7, MA7⟩, ⟨?_, ?_, ?_, ?_, ?_⟩, ?_, ?_, ?_⟩ ⟨fun _ => by rw [m2]; omega, fun _ => q10⟩ (q6.trans v5) d0 d1 d2 d3)) (fun _ _ _ _ c => absurd rfl c)
    · rw [f15, m_uN _ _ _ _ (by decide)]; exact b1
    · rw [f15, m_uN _ _ _ _ (by decide), m1]; exact a3
    · rw [f15, m_uE, m2]; omega
    · rw [f15, m_uN _ _ _ _ (by decide), m4, if_neg (fun z => by omega)]; exact b7
    · rw [f15, m_uN _ _ _ _ (by decide), m5, if_neg (fun z => by omega)]; exact b8
    · rw [m2, m3, if_neg (by omega)]
      exact ar_beg ao g40 y2 y0 y1
    · rw [m1]; exact t3
    · have := t4 (by omega)
      rw [m1, m2]; omega
  · have v5 := a5 (Or.inl c1)
    have cv := (t7 (by omega)).1
    have MA6 := MA1.stay (by decide) M15.1.1 M15.1.2.2 (d_subm hw (by decide +kernel)) (by decide +kernel)
    have M6 := M1.re M15 (d_subm hw (by decide +kernel))
    have g40 : 40 ≤ ls_g S := by omega
    have o7 : F15 7 = ls_f S := by rw [f15, m_uN _ _ _ _ (by decide)]; exact b7
    have o8 : F15 8 = ls_l S := by rw [f15, m_uN _ _ _ _ (by decide)]; exact b8
    refine s_rl64 M6 d0 d1 MA6.1.2.1 d2 q6 d3 q10 (fun c => absurd q10 (by omega)) (fun x1 q1 x2 q2 _ _ _ => c_note2 M6 MA6 hw q1 q2 (fun h7 F7 M7 MA7 y7 y8 yo => s_rl77 M7 d0 d1 MA7.1.2.1 d2 q6 d3 q10 (word (by omega) (by omega) lv11 h7 x6 x10 ⟨F7, Fa, Va, ⟨M7, MA7⟩, ⟨?_, ?_, ?_, ?_, ?_⟩, ?_, ?_, ?_⟩ ⟨fun z => by omega, fun z => by rw [m2] at z; omega⟩ (q6.trans v5) d0 d1 d2 d3)))
    · rw [yo 1 (by decide) (by decide), f15, m_uN _ _ _ _ (by decide)]; exact b1
    · rw [yo 3 (by decide) (by decide), f15, m_uN _ _ _ _ (by decide), m1]; exact a3
    · rw [yo 6 (by decide) (by decide), f15, m_uE, m2]; omega
    · rw [y7, o7, m4]
      by_cases ef : ls_f S = 0
      · rw [if_pos ef, if_pos ⟨g40, ef⟩]
      · rw [if_neg ef, if_neg (fun z => ef z.2)]
    · rw [y8, o7, o8, m5, f15, m_uN _ _ _ _ (by decide), a2]
      by_cases ef : ls_f S = 0
      · rw [if_pos ef, if_pos ⟨g40, ef⟩]
      · rw [if_neg ef, if_neg (fun z => ef z.2)]
    · rw [m2, m3, if_pos g40]
      exact ar_up ao g40
    · rw [m1]; exact t3
    · have := t4 (by omega)
      rw [m1, m2]; omega
  · have v5 := a5 (Or.inl c1)
    exact c_gn2 M1 MA1 hw a2 (fun x h2 F2 qx M2 MA2 d7 d8 dd => s_rl33 qx (by omega) (by omega) (bad ⟨by omega, fun z => by omega⟩ x h2 F2 qx M2 MA2 d7 d8 dd))
  · rw [if_pos (by omega)] at g
    exact g x22 h1 ⟨fun z => by omega, fun z => absurd (show (0 : Nat) = 2 from z) (by decide)⟩ (by omega) ⟨F1, Fa, Va, ⟨M1, MA1⟩, ⟨b1, a3, b6, b7, b8⟩, ao, t3, by show ls_g S ≤ rt_b q; omega⟩ (fun z => absurd (show (0 : Nat) = 2 from z) (by decide))
end
end
section
-- THE REFERENCE'S READER: ITS TOKENS
section
variable {i pc pc' : Nat} {lv : List (Nat × Value)} {st : List Value} {Q : Option Value → MH → Prop} {R : Nat} {W W2 : List (Nat × Nat)} {ρ : Nat → Nat} {m : Nat} {A : Nat → Nat} {h0 h h1 h2 : MH} {F F1 F2 : Nat → Int} {V V1 V2 : Nat → Nat → Int} {G G1 G2 : Nat → Nat → Int64}
theorem hM_gl {idx nest c k : Nat} {rs : RS} {w : Int64} (M : MX R W ρ m A h0 h F V G) (hR : R ≠ 0) (hs : c_sp[R]? = some rs) (hc : rs.1.1 = c + 1) (a : m_at i pc = some (.getfield idx, 3)) (hf : m_fl i idx = some (nest, c, k)) (ht : (m_ty c k).1 = 1) (hw : h_l h m k = w) (hp : pc + 3 = pc') (g : HJ i pc' lv (.long w :: st) h Q) : HJ i pc lv (.ref m :: st) h Q := by
  subst hp
  refine HJ.ex a (Or.inl rfl) ?_ g
  show e_get i idx pc lv _ h = _
  unfold e_get
  rw [hf]
  dsimp only
  rw [if_pos ((t_spec M.1.1 hR hs M.1.2.1).1.trans hc), ht]
  rw [hw]
  rfl
theorem hM_pl {idx nest c k : Nat} {rs : RS} {x : Int64} (M : MX R W ρ m A h0 h F V G) (hR : R ≠ 0) (ok : rg_okb R = true) (hs : c_sp[R]? = some rs) (hc : rs.1.1 = c + 1) (a : m_at i pc = some (.putfield idx, 3)) (hf : m_fl i idx = some (nest, c, k)) (ht : c < 10 ∧ k < m_nf c ∧ m_ty c k = (1, false)) (hw : d_sub [(R, k)] W = true) (hp : pc + 3 = pc') (g : ∀ h' : MH, h_l h' m k = x → MX R W ρ m A h0 h' F V G → HJ i pc' lv st h' Q) : HJ i pc lv (.long x :: .ref m :: st) h Q := by
  subst hp
  refine HJ.ex (h' := h_sl h m k x) a (Or.inl rfl) ?_ (g _ ?_ ?_)
  · show e_put i idx pc lv _ h = _
    unfold e_put
    rw [hf]
    dsimp only
    rw [if_pos ⟨(t_spec M.1.1 hR hs M.1.2.1).1.trans hc, ht.1, ht.2.1, ht.2.2⟩]
    rfl
  · rw [sl_I, if_pos ⟨rfl, rfl⟩]
  · refine ⟨⟨sl_T M.1.1, M.1.2.1, M.1.2.2.trans (FS.mono hw (FS.ofFR (sl_F M.1.2.1 (Or.inl (List.mem_singleton.mpr rfl)))))⟩, M.2.1, fun K hK => ⟨(M.2.2 K hK).1, fun j => ⟨((M.2.2 K hK).2 j).1, ?_⟩⟩⟩
    rw [sl_I, if_neg (fun z => ?_)]
    · exact ((M.2.2 K hK).2 j).2
    · have := (M.ar hR hK).1
      rw [z.1, M.1.2.1] at this
      exact rg_self ok hK this.symm
end
section
variable {lv : List (Nat × Value)} {Q : Option Value → MH → Prop} {W : List (Nat × Nat)} {ρ : Nat → Nat} {m : Nat} {A : Nat → Nat} {h0 h : MH} {F : Nat → Int} {V : Nat → Nat → Int} {G : Nat → Nat → Int64}
theorem s_see (M : MX 49 W ρ m A h0 h F V G) (e0 : m_lk lv 0 = some (.ref m)) 
    (g0 : ∀ x3 : Int32, x3.toInt = (-1) → 0 ≤ F 7 → F 7 ≤ 600 → 0 ≤ F 8 → F 8 ≤ 600 → F 7 ≥ F 8 → Q (some (.int x3)) h)
    (g1 : ∀ x7 : Int32, x7.toInt = (V 1 (F 7).toNat) % 256 → 0 ≤ F 7 → F 7 ≤ 600 → 0 ≤ F 8 → F 8 ≤ 600 → F 7 < F 8 → (-128) ≤ V 1 (F 7).toNat → V 1 (F 7).toNat ≤ 127 → Q (some (.int x7)) h)
    : HJ 191 0 lv [] h Q := by
  refine hI_al (k := 0) rfl e0 rfl ?_ -- 0
  refine hM_gi M (by decide) rfl rfl rfl (k := 7) (c := 9) (lo := 0) (hi := 600) rfl rfl rfl rfl rfl (fun x1 q1 a1 b1 => ?_) -- 1
  refine hI_al (k := 0) rfl e0 rfl ?_ -- 4
  refine hM_gi M (by decide) rfl rfl rfl (k := 8) (c := 9) (lo := 0) (hi := 600) rfl rfl rfl rfl rfl (fun x2 q2 a2 b2 => ?_) -- 5
  refine hM_cge (off := 19) (t := 27) rfl q1 q2 (by decide) rfl (fun c8 => ?_) (fun c8 => ?_) -- 8
  · refine hM_ic (n := (-1)) rfl (by decide) rfl (fun x3 q3 => ?_) -- 27
    refine hI_ri rfl rfl ?_ -- 28
    exact g0 x3 q3 a1 b1 a2 b2 c8
  · refine hI_al (k := 0) rfl e0 rfl ?_ -- 11
    refine hM_ga M (by decide) rfl rfl (k := 1) (c := 9) rfl rfl rfl (by decide +kernel) rfl ?_ -- 12
    refine hI_al (k := 0) rfl e0 rfl ?_ -- 15
    refine hM_gi M (by decide) rfl rfl rfl (k := 7) (c := 9) (lo := 0) (hi := 600) rfl rfl rfl rfl rfl (fun x4 q4 a4 b4 => ?_) -- 16
    refine hM_ba M (by decide) (K := 1) (R2 := 50) (L := 2400) (H := 2400) (lo := (-128)) (hi := 127) rfl (by decide) rfl rfl (Or.inl rfl) (fun _ => rfl) rfl q4 (by omega) (by omega) rfl (fun x5 q5 a5 b5 => ?_) -- 19
    refine hM_sp (n := 255) rfl (by decide) rfl (fun x6 q6 => ?_) -- 20
    refine hM_iand255 rfl q5 q6 rfl (fun x7 q7 => ?_) -- 23
    refine hI_go (pc' := 28) (off := 4) rfl (by decide) ?_ -- 24
    refine hI_ri rfl rfl ?_ -- 28
    exact g1 x7 q7 a1 b1 a2 b2 c8 a5 b5
theorem s_tk0 (M : MX 49 W ρ m A h0 h F V G) (e0 : m_lk lv 0 = some (.ref m)) 
    (g0 : HJ 191 0 (lv_args 0 [.ref m]) [] h (fun v h' => HJ 190 4 lv (v.toList ++ []) h' Q))
    : HJ 190 0 lv [] h Q := by
  refine hI_al (k := 0) rfl e0 rfl ?_ -- 0
  refine hM_iv M (by decide) rfl rfl (by decide) (as := []) (r := []) rfl rfl (by decide +kernel) rfl (by decide +kernel) rfl rfl rfl rfl rfl ?_ -- 1
  exact g0 
theorem s_tk4 {z : Int} (M : MX 49 W ρ m A h0 h F V G) (e0 : m_lk lv 0 = some (.ref m)) {sx0 : Int32} (sq0 : sx0.toInt = z) (i1 : z = 10 → F 7 ≤ 599)(hw : d_sub [(49, 7)] W = true)
    (g0 : ∀ h5 : MH, ∀ F5 : Nat → Int, F5 = m_u F 7 ((F 7) + 1) → MX 49 W ρ m A h0 h5 F5 V G → z = 10 → 0 ≤ F 7 → F 7 ≤ 600 → HJ 190 0 lv [] h5 Q)
    (g1 : z ≠ 10 → HJ 191 0 (lv_args 0 [.ref m]) [] h (fun v h' => HJ 190 13 lv (v.toList ++ []) h' Q))
    : HJ 190 4 lv [.int sx0] h Q := by
  refine hM_bp (n := 10) rfl (by decide) rfl (fun x1 q1 => ?_) -- 4
  refine hM_ceq (off := 12) (t := 18) rfl sq0 q1 (by decide) rfl (fun c6 => ?_) (fun c6 => ?_) -- 6
  · refine hI_al (k := 0) rfl e0 rfl ?_ -- 18
    refine hI_dup rfl rfl rfl ?_ -- 19
    refine hM_gi M (by decide) rfl rfl rfl (k := 7) (c := 9) (lo := 0) (hi := 600) rfl rfl rfl rfl rfl (fun x2 q2 a2 b2 => ?_) -- 20
    refine hM_ic (n := 1) rfl (by decide) rfl (fun x3 q3 => ?_) -- 23
    refine hM_add rfl q2 q3 (by omega) (by omega) rfl (fun x4 q4 => ?_) -- 24
    refine hM_pi M (by decide) ok_49 rfl rfl (k := 7) (c := 9) (lo := 0) (hi := 600) rfl rfl ⟨by decide, by decide +kernel, rfl⟩ rfl (d_subm hw (by decide +kernel)) q4 (by omega) (by omega) rfl (fun h5 F5 f5 M5 => ?_) -- 25
    refine hI_go (pc' := 0) (off := (-28)) rfl (by decide) ?_ -- 28
    exact g0 h5 F5 f5 M5 c6 a2 b2
  · refine hI_al (k := 0) rfl e0 rfl ?_ -- 9
    refine hM_iv M (by decide) rfl rfl (by decide) (as := []) (r := []) rfl rfl (by decide +kernel) rfl (by decide +kernel) rfl rfl rfl rfl rfl ?_ -- 10
    exact g1 c6
theorem s_tk13 {z : Int} (M : MX 49 W ρ m A h0 h F V G) (e0 : m_lk lv 0 = some (.ref m)) {sx0 : Int32} (sq0 : sx0.toInt = z) (i1 : z = 32 → F 7 ≤ 599)(hw : d_sub [(49, 7)] W = true)
    (g0 : z ≠ 32 → HJ 190 31 lv [] h Q)
    (g1 : ∀ h5 : MH, ∀ F5 : Nat → Int, F5 = m_u F 7 ((F 7) + 1) → MX 49 W ρ m A h0 h5 F5 V G → z = 32 → 0 ≤ F 7 → F 7 ≤ 600 → HJ 190 0 lv [] h5 Q)
    : HJ 190 13 lv [.int sx0] h Q := by
  refine hM_bp (n := 32) rfl (by decide) rfl (fun x1 q1 => ?_) -- 13
  refine hM_cne (off := 16) (t := 31) rfl sq0 q1 (by decide) rfl (fun c15 => ?_) (fun c15 => ?_) -- 15
  · exact g0 c15
  · refine hI_al (k := 0) rfl e0 rfl ?_ -- 18
    refine hI_dup rfl rfl rfl ?_ -- 19
    refine hM_gi M (by decide) rfl rfl rfl (k := 7) (c := 9) (lo := 0) (hi := 600) rfl rfl rfl rfl rfl (fun x2 q2 a2 b2 => ?_) -- 20
    refine hM_ic (n := 1) rfl (by decide) rfl (fun x3 q3 => ?_) -- 23
    refine hM_add rfl q2 q3 (by omega) (by omega) rfl (fun x4 q4 => ?_) -- 24
    refine hM_pi M (by decide) ok_49 rfl rfl (k := 7) (c := 9) (lo := 0) (hi := 600) rfl rfl ⟨by decide, by decide +kernel, rfl⟩ rfl (d_subm hw (by decide +kernel)) q4 (by omega) (by omega) rfl (fun h5 F5 f5 M5 => ?_) -- 25
    refine hI_go (pc' := 0) (off := (-28)) rfl (by decide) ?_ -- 28
    exact g1 h5 F5 f5 M5 c15 a2 b2
theorem s_tk31 (M : MX 49 W ρ m A h0 h F V G) (e0 : m_lk lv 0 = some (.ref m)) (hw : d_sub [(49, 9)] W = true)
    (g0 : ∀ h2 : MH, ∀ F2 : Nat → Int, F2 = m_u F 9 (F 7) → MX 49 W ρ m A h0 h2 F2 V G → 0 ≤ F 7 → F 7 ≤ 600 → HJ 191 0 (lv_args 0 [.ref m]) [] h2 (fun v h' => HJ 190 43 lv (v.toList ++ []) h' Q))
    : HJ 190 31 lv [] h Q := by
  refine hI_al (k := 0) rfl e0 rfl ?_ -- 31
  refine hI_al (k := 0) rfl e0 rfl ?_ -- 32
  refine hM_gi M (by decide) rfl rfl rfl (k := 7) (c := 9) (lo := 0) (hi := 600) rfl rfl rfl rfl rfl (fun x1 q1 a1 b1 => ?_) -- 33
  refine hM_pi M (by decide) ok_49 rfl rfl (k := 9) (c := 9) (lo := 0) (hi := 600) rfl rfl ⟨by decide, by decide +kernel, rfl⟩ rfl (d_subm hw (by decide +kernel)) q1 (by omega) (by omega) rfl (fun h2 F2 f2 M2 => ?_) -- 36
  refine hI_al (k := 0) rfl e0 rfl ?_ -- 39
  refine hM_iv M2 (by decide) rfl rfl (by decide) (as := []) (r := []) rfl rfl (by decide +kernel) rfl (by decide +kernel) rfl rfl rfl rfl rfl ?_ -- 40
  exact g0 h2 F2 f2 M2 a1 b1
theorem s_tk43 {z : Int} (M : MX 49 W ρ m A h0 h F V G) (e0 : m_lk lv 0 = some (.ref m)) {sx0 : Int32} (sq0 : sx0.toInt = z) 
    (g0 : ∀ lv1 : List (Nat × Value), m_lk lv1 0 = some (.ref m) → m_lk lv1 1 = some (.int sx0) → HJ 190 44 lv1 [] h Q)
    : HJ 190 43 lv [.int sx0] h Q := by
  refine hM_si (k := 1) rfl (by decide +kernel) rfl (fun lv1 e1_1 u1 => ?_) -- 43
  have e1_0 := u1 0 _ (by decide) (Or.inl rfl) e0
  exact g0 lv1 e1_0 e1_1
theorem s_tk44 {c : Int} (M : MX 49 W ρ m A h0 h F V G) (e0 : m_lk lv 0 = some (.ref m)) {lx1 : Int32} (e1 : m_lk lv 1 = some (.int lx1)) (lq1 : lx1.toInt = c) (hw : d_sub [(49, 12), (49, 10)] W = true)
    (g0 : ∀ h1 : MH, h_l h1 m 12 = (Int64.ofNat (0 : Fin 2).val) → ∀ x2 : Int32, x2.toInt = 0 → ∀ x4 : Int32, x4.toInt = 97 → ∀ x5 : Int32, x5.toInt = 122 → ∀ lv3 : List (Nat × Value), MX 49 W ρ m A h0 h1 F V G → m_lk lv3 0 = some (.ref m) → m_lk lv3 1 = some (.int lx1) → m_lk lv3 2 = some (.int x2) → c ≥ 0 → HJ 186 0 (lv_args 0 [.int lx1, .int x4, .int x5]) [] h1 (fun v h' => HJ 190 71 lv3 (v.toList ++ []) h' Q))
    (g1 : ∀ h1 : MH, h_l h1 m 12 = (Int64.ofNat (0 : Fin 2).val) → ∀ h7 : MH, ∀ F7 : Nat → Int, F7 = m_u F 10 (0) → ∀ lv3 : List (Nat × Value), MX 49 W ρ m A h0 h7 F7 V G → c < 0 → Q none h7)
    : HJ 190 44 lv [] h Q := by
  refine hI_al (k := 0) rfl e0 rfl ?_ -- 44
  refine hI_lc (n := 0) rfl rfl ?_ -- 45
  refine hM_pl M (by decide) ok_49 rfl rfl (k := 12) (c := 9) rfl rfl ⟨by decide, by decide +kernel, rfl⟩ (d_subm hw (by decide +kernel)) rfl (fun h1 y1 M1 => ?_) -- 46
  refine hM_ic (n := 0) rfl (by decide) rfl (fun x2 q2 => ?_) -- 49
  refine hM_si (k := 2) rfl (by decide +kernel) rfl (fun lv3 e3_2 u3 => ?_) -- 50
  have e3_0 := u3 0 _ (by decide) (Or.inl rfl) e0
  have e3_1 := u3 1 _ (by decide) (Or.inl rfl) e1
  refine hI_il (k := 1) rfl e3_1 rfl ?_ -- 51
  refine hM_zge (off := 11) (t := 63) rfl lq1 (by decide) rfl (fun c52 => ?_) (fun c52 => ?_) -- 52
  · refine hI_il (k := 1) rfl e3_1 rfl ?_ -- 63
    refine hM_bp (n := 97) rfl (by decide) rfl (fun x4 q4 => ?_) -- 64
    refine hM_bp (n := 122) rfl (by decide) rfl (fun x5 q5 => ?_) -- 66
    refine hM_is0 (as := [.int lx1, .int x4, .int x5]) (r := []) rfl rfl (by decide +kernel) rfl rfl rfl rfl rfl ?_ -- 68
    exact g0 h1 y1 x2 q2 x4 q4 x5 q5 lv3 M1 e3_0 e3_1 e3_2 c52
  · refine hI_al (k := 0) rfl e3_0 rfl ?_ -- 55
    refine hM_ic (n := 0) rfl (by decide) rfl (fun x6 q6 => ?_) -- 56
    refine hM_pi M1 (by decide) ok_49 rfl rfl (k := 10) (c := 9) (lo := (-2147483648)) (hi := 2147483647) rfl rfl ⟨by decide, by decide +kernel, rfl⟩ rfl (d_subm hw (by decide +kernel)) q6 (by omega) (by omega) rfl (fun h7 F7 f7 M7 => ?_) -- 57
    refine hI_go (pc' := 266) (off := 206) rfl (by decide) ?_ -- 60
    refine hI_rv rfl rfl ?_
    exact g1 h1 y1 h7 F7 f7 lv3 M7 c52
theorem s_tk71 {c k z : Int} (M : MX 49 W ρ m A h0 h F V G) (e0 : m_lk lv 0 = some (.ref m)) {lx1 : Int32} (e1 : m_lk lv 1 = some (.int lx1)) (lq1 : lx1.toInt = c) {lx2 : Int32} (e2 : m_lk lv 2 = some (.int lx2)) (lq2 : lx2.toInt = k) {sx0 : Int32} (sq0 : sx0.toInt = z) 
    (g0 : ∀ x1 : Int32, x1.toInt = 48 → ∀ x2 : Int32, x2.toInt = 57 → z = 0 → HJ 186 0 (lv_args 0 [.int lx1, .int x1, .int x2]) [] h (fun v h' => HJ 190 155 lv (v.toList ++ []) h' Q))
    (g1 : z ≠ 0 → HJ 190 74 lv [] h Q)
    : HJ 190 71 lv [.int sx0] h Q := by
  refine hM_zeq (off := 76) (t := 147) rfl sq0 (by decide) rfl (fun c71 => ?_) (fun c71 => ?_) -- 71
  · refine hI_il (k := 1) rfl e1 rfl ?_ -- 147
    refine hM_bp (n := 48) rfl (by decide) rfl (fun x1 q1 => ?_) -- 148
    refine hM_bp (n := 57) rfl (by decide) rfl (fun x2 q2 => ?_) -- 150
    refine hM_is0 (as := [.int lx1, .int x1, .int x2]) (r := []) rfl rfl (by decide +kernel) rfl rfl rfl rfl rfl ?_ -- 152
    exact g0 x1 q1 x2 q2 c71
  · exact g1 c71
theorem s_tk74 {c k : Int} (M : MX 49 W ρ m A h0 h F V G) (e0 : m_lk lv 0 = some (.ref m)) {lx1 : Int32} (e1 : m_lk lv 1 = some (.int lx1)) (lq1 : lx1.toInt = c) {lx2 : Int32} (e2 : m_lk lv 2 = some (.int lx2)) (lq2 : lx2.toInt = k) 
    (g0 : HJ 191 0 (lv_args 0 [.ref m]) [] h (fun v h' => HJ 190 78 lv (v.toList ++ []) h' Q))
    : HJ 190 74 lv [] h Q := by
  refine hI_al (k := 0) rfl e0 rfl ?_ -- 74
  refine hM_iv M (by decide) rfl rfl (by decide) (as := []) (r := []) rfl rfl (by decide +kernel) rfl (by decide +kernel) rfl rfl rfl rfl rfl ?_ -- 75
  exact g0 
theorem s_tk78 {c k y : Int} (M : MX 49 W ρ m A h0 h F V G) (e0 : m_lk lv 0 = some (.ref m)) {lx1 : Int32} (e1 : m_lk lv 1 = some (.int lx1)) (lq1 : lx1.toInt = c) {lx2 : Int32} (e2 : m_lk lv 2 = some (.int lx2)) (lq2 : lx2.toInt = k) {sx0 : Int32} (sq0 : sx0.toInt = y) 
    (g0 : ∀ x1 : Int32, x1.toInt = 97 → ∀ x2 : Int32, x2.toInt = 122 → HJ 186 0 (lv_args 0 [.int sx0, .int x1, .int x2]) [] h (fun v h' => HJ 190 85 lv (v.toList ++ []) h' Q))
    : HJ 190 78 lv [.int sx0] h Q := by
  refine hM_bp (n := 97) rfl (by decide) rfl (fun x1 q1 => ?_) -- 78
  refine hM_bp (n := 122) rfl (by decide) rfl (fun x2 q2 => ?_) -- 80
  refine hM_is0 (as := [.int sx0, .int x1, .int x2]) (r := []) rfl rfl (by decide +kernel) rfl rfl rfl rfl rfl ?_ -- 82
  exact g0 x1 q1 x2 q2
theorem s_tk85 {c k z : Int} {w : Int64} (M : MX 49 W ρ m A h0 h F V G) (e0 : m_lk lv 0 = some (.ref m)) {lx1 : Int32} (e1 : m_lk lv 1 = some (.int lx1)) (lq1 : lx1.toInt = c) {lx2 : Int32} (e2 : m_lk lv 2 = some (.int lx2)) (lq2 : lx2.toInt = k) {sx0 : Int32} (sq0 : sx0.toInt = z) (wl : h_l h m 12 = w)
    (g0 : z = 0 → HJ 190 121 lv [] h Q)
    (g1 : z ≠ 0 → HJ 191 0 (lv_args 0 [.ref m]) [] h (fun v h' => HJ 190 100 lv (v.toList ++ [.long (w <<< ((Int32.ofInt (8)).toInt64 &&& 63)), .ref m]) h' Q))
    : HJ 190 85 lv [.int sx0] h Q := by
  refine hM_zeq (off := 36) (t := 121) rfl sq0 (by decide) rfl (fun c85 => ?_) (fun c85 => ?_) -- 85
  · exact g0 c85
  · refine hI_al (k := 0) rfl e0 rfl ?_ -- 88
    refine hI_al (k := 0) rfl e0 rfl ?_ -- 89
    refine hM_gl M (by decide) rfl rfl (k := 12) (c := 9) rfl rfl rfl wl rfl ?_ -- 90
    refine hM_bp (n := 8) rfl (by decide) rfl (fun x1 q1 => ?_) -- 93
    refine hM_lshl rfl q1 rfl ?_ -- 95
    refine hI_al (k := 0) rfl e0 rfl ?_ -- 96
    refine hM_iv M (by decide) rfl rfl (by decide) (as := []) (r := [.long (w <<< ((Int32.ofInt (8)).toInt64 &&& 63)), .ref m]) rfl rfl (by decide +kernel) rfl (by decide +kernel) rfl rfl rfl rfl rfl ?_ -- 97
    exact g1 c85
theorem s_tk100 {c k y : Int} (M : MX 49 W ρ m A h0 h F V G) (e0 : m_lk lv 0 = some (.ref m)) {lx1 : Int32} (e1 : m_lk lv 1 = some (.int lx1)) (lq1 : lx1.toInt = c) {lx2 : Int32} (e2 : m_lk lv 2 = some (.int lx2)) (lq2 : lx2.toInt = k) {sx1 : Int64} {sx2 : Int32} (sq2 : sx2.toInt = y) (hw : d_sub [(49, 12)] W = true)
    (g0 : ∀ h1 : MH, h_l h1 m 12 = (sx1 ||| (Int32.ofInt (y)).toInt64) → MX 49 W ρ m A h0 h1 F V G → HJ 190 105 lv [] h1 Q)
    : HJ 190 100 lv [.int sx2, .long sx1, .ref m] h Q := by
  refine hM_i2l rfl sq2 rfl ?_ -- 100
  refine hI_lor rfl rfl ?_ -- 101
  refine hM_pl M (by decide) ok_49 rfl rfl (k := 12) (c := 9) rfl rfl ⟨by decide, by decide +kernel, rfl⟩ (d_subm hw (by decide +kernel)) rfl (fun h1 y1 M1 => ?_) -- 102
  exact g0 h1 y1 M1
theorem s_tk105 {c k : Int} (M : MX 49 W ρ m A h0 h F V G) (e0 : m_lk lv 0 = some (.ref m)) {lx1 : Int32} (e1 : m_lk lv 1 = some (.int lx1)) (lq1 : lx1.toInt = c) {lx2 : Int32} (e2 : m_lk lv 2 = some (.int lx2)) (lq2 : lx2.toInt = k) (i1 : F 7 ≤ 599) (k0 : 0 ≤ k) (k1 : k ≤ 600)(hw : d_sub [(49, 7)] W = true)
    (g0 : ∀ h4 : MH, ∀ F4 : Nat → Int, F4 = m_u F 7 ((F 7) + 1) → ∀ x5 : Int32, x5.toInt = k + 1 → ∀ lv5 : List (Nat × Value), MX 49 W ρ m A h0 h4 F4 V G → m_lk lv5 0 = some (.ref m) → m_lk lv5 1 = some (.int lx1) → m_lk lv5 2 = some (.int x5) → 0 ≤ F 7 → F 7 ≤ 600 → HJ 190 74 lv5 [] h4 Q)
    : HJ 190 105 lv [] h Q := by
  refine hI_al (k := 0) rfl e0 rfl ?_ -- 105
  refine hI_dup rfl rfl rfl ?_ -- 106
  refine hM_gi M (by decide) rfl rfl rfl (k := 7) (c := 9) (lo := 0) (hi := 600) rfl rfl rfl rfl rfl (fun x1 q1 a1 b1 => ?_) -- 107
  refine hM_ic (n := 1) rfl (by decide) rfl (fun x2 q2 => ?_) -- 110
  refine hM_add rfl q1 q2 (by omega) (by omega) rfl (fun x3 q3 => ?_) -- 111
  refine hM_pi M (by decide) ok_49 rfl rfl (k := 7) (c := 9) (lo := 0) (hi := 600) rfl rfl ⟨by decide, by decide +kernel, rfl⟩ rfl (d_subm hw (by decide +kernel)) q3 (by omega) (by omega) rfl (fun h4 F4 f4 M4 => ?_) -- 112
  refine hM_inc (k := 2) (z := 1) rfl e2 lq2 (by decide) (by omega) (by omega) (by decide +kernel) rfl (fun lv5 x5 q5 e5_2 u5 => ?_) -- 115
  have e5_0 := u5 0 _ (by decide) (Or.inl rfl) e0
  have e5_1 := u5 1 _ (by decide) (Or.inl rfl) e1
  refine hI_go (pc' := 74) (off := (-44)) rfl (by decide) ?_ -- 118
  exact g0 h4 F4 f4 x5 q5 lv5 M4 e5_0 e5_1 e5_2 a1 b1
theorem s_tk121 {c k : Int} {w : Int64} (M : MX 49 W ρ m A h0 h F V G) (e0 : m_lk lv 0 = some (.ref m)) {lx1 : Int32} (e1 : m_lk lv 1 = some (.int lx1)) (lq1 : lx1.toInt = c) {lx2 : Int32} (e2 : m_lk lv 2 = some (.int lx2)) (lq2 : lx2.toInt = k) (wl : h_l h m 12 = w)(hw : d_sub [(49, 12)] W = true)
    (g0 : ∀ h2 : MH, h_l h2 m 12 = w → MX 49 W ρ m A h0 h2 F V G → k ≤ 8 → HJ 190 139 lv [] h2 Q)
    (g1 : ∀ h3 : MH, h_l h3 m 12 = (Int64.ofNat (0 : Fin 2).val) → MX 49 W ρ m A h0 h3 F V G → k > 8 → HJ 190 139 lv [] h3 Q)
    : HJ 190 121 lv [] h Q := by
  refine hI_al (k := 0) rfl e0 rfl ?_ -- 121
  refine hI_il (k := 2) rfl e2 rfl ?_ -- 122
  refine hM_bp (n := 8) rfl (by decide) rfl (fun x1 q1 => ?_) -- 123
  refine hM_cle (off := 7) (t := 132) rfl lq2 q1 (by decide) rfl (fun c125 => ?_) (fun c125 => ?_) -- 125
  · refine hI_al (k := 0) rfl e0 rfl ?_ -- 132
    refine hM_gl M (by decide) rfl rfl (k := 12) (c := 9) rfl rfl rfl wl rfl ?_ -- 133
    refine hM_pl M (by decide) ok_49 rfl rfl (k := 12) (c := 9) rfl rfl ⟨by decide, by decide +kernel, rfl⟩ (d_subm hw (by decide +kernel)) rfl (fun h2 y2 M2 => ?_) -- 136
    exact g0 h2 y2 M2 c125
  · refine hI_lc (n := 0) rfl rfl ?_ -- 128
    refine hI_go (pc' := 136) (off := 7) rfl (by decide) ?_ -- 129
    refine hM_pl M (by decide) ok_49 rfl rfl (k := 12) (c := 9) rfl rfl ⟨by decide, by decide +kernel, rfl⟩ (d_subm hw (by decide +kernel)) rfl (fun h3 y3 M3 => ?_) -- 136
    exact g1 h3 y3 M3 c125
theorem s_tk139 (M : MX 49 W ρ m A h0 h F V G) (e0 : m_lk lv 0 = some (.ref m)) (hw : d_sub [(49, 10)] W = true)
    (g0 : ∀ h2 : MH, ∀ F2 : Nat → Int, F2 = m_u F 10 (2) → MX 49 W ρ m A h0 h2 F2 V G → Q none h2)
    : HJ 190 139 lv [] h Q := by
  refine hI_al (k := 0) rfl e0 rfl ?_ -- 139
  refine hM_ic (n := 2) rfl (by decide) rfl (fun x1 q1 => ?_) -- 140
  refine hM_pi M (by decide) ok_49 rfl rfl (k := 10) (c := 9) (lo := (-2147483648)) (hi := 2147483647) rfl rfl ⟨by decide, by decide +kernel, rfl⟩ rfl (d_subm hw (by decide +kernel)) q1 (by omega) (by omega) rfl (fun h2 F2 f2 M2 => ?_) -- 141
  refine hI_go (pc' := 266) (off := 122) rfl (by decide) ?_ -- 144
  refine hI_rv rfl rfl ?_
  exact g0 h2 F2 f2 M2
theorem s_tk155 {c k z : Int} (M : MX 49 W ρ m A h0 h F V G) (e0 : m_lk lv 0 = some (.ref m)) {lx1 : Int32} (e1 : m_lk lv 1 = some (.int lx1)) (lq1 : lx1.toInt = c) {lx2 : Int32} (e2 : m_lk lv 2 = some (.int lx2)) (lq2 : lx2.toInt = k) {sx0 : Int32} (sq0 : sx0.toInt = z) (hw : d_sub [(49, 11)] W = true)
    (g0 : z = 0 → HJ 190 241 lv [] h Q)
    (g1 : ∀ h2 : MH, ∀ F2 : Nat → Int, F2 = m_u F 11 (0) → MX 49 W ρ m A h0 h2 F2 V G → z ≠ 0 → HJ 190 163 lv [] h2 Q)
    : HJ 190 155 lv [.int sx0] h Q := by
  refine hM_zeq (off := 86) (t := 241) rfl sq0 (by decide) rfl (fun c155 => ?_) (fun c155 => ?_) -- 155
  · exact g0 c155
  · refine hI_al (k := 0) rfl e0 rfl ?_ -- 158
    refine hM_ic (n := 0) rfl (by decide) rfl (fun x1 q1 => ?_) -- 159
    refine hM_pi M (by decide) ok_49 rfl rfl (k := 11) (c := 9) (lo := (-2147483648)) (hi := 2147483647) rfl rfl ⟨by decide, by decide +kernel, rfl⟩ rfl (d_subm hw (by decide +kernel)) q1 (by omega) (by omega) rfl (fun h2 F2 f2 M2 => ?_) -- 160
    exact g1 h2 F2 f2 M2 c155
theorem s_tk163 {c k : Int} (M : MX 49 W ρ m A h0 h F V G) (e0 : m_lk lv 0 = some (.ref m)) {lx1 : Int32} (e1 : m_lk lv 1 = some (.int lx1)) (lq1 : lx1.toInt = c) {lx2 : Int32} (e2 : m_lk lv 2 = some (.int lx2)) (lq2 : lx2.toInt = k) 
    (g0 : HJ 191 0 (lv_args 0 [.ref m]) [] h (fun v h' => HJ 190 167 lv (v.toList ++ []) h' Q))
    : HJ 190 163 lv [] h Q := by
  refine hI_al (k := 0) rfl e0 rfl ?_ -- 163
  refine hM_iv M (by decide) rfl rfl (by decide) (as := []) (r := []) rfl rfl (by decide +kernel) rfl (by decide +kernel) rfl rfl rfl rfl rfl ?_ -- 164
  exact g0 
theorem s_tk167 {c k y : Int} (M : MX 49 W ρ m A h0 h F V G) (e0 : m_lk lv 0 = some (.ref m)) {lx1 : Int32} (e1 : m_lk lv 1 = some (.int lx1)) (lq1 : lx1.toInt = c) {lx2 : Int32} (e2 : m_lk lv 2 = some (.int lx2)) (lq2 : lx2.toInt = k) {sx0 : Int32} (sq0 : sx0.toInt = y) 
    (g0 : ∀ x1 : Int32, x1.toInt = 48 → ∀ x2 : Int32, x2.toInt = 57 → HJ 186 0 (lv_args 0 [.int sx0, .int x1, .int x2]) [] h (fun v h' => HJ 190 174 lv (v.toList ++ []) h' Q))
    : HJ 190 167 lv [.int sx0] h Q := by
  refine hM_bp (n := 48) rfl (by decide) rfl (fun x1 q1 => ?_) -- 167
  refine hM_bp (n := 57) rfl (by decide) rfl (fun x2 q2 => ?_) -- 169
  refine hM_is0 (as := [.int sx0, .int x1, .int x2]) (r := []) rfl rfl (by decide +kernel) rfl rfl rfl rfl rfl ?_ -- 171
  exact g0 x1 q1 x2 q2
theorem s_tk174 {c k z : Int} (M : MX 49 W ρ m A h0 h F V G) (e0 : m_lk lv 0 = some (.ref m)) {lx1 : Int32} (e1 : m_lk lv 1 = some (.int lx1)) (lq1 : lx1.toInt = c) {lx2 : Int32} (e2 : m_lk lv 2 = some (.int lx2)) (lq2 : lx2.toInt = k) {sx0 : Int32} (sq0 : sx0.toInt = z) (v0 : k < 2 → 0 ≤ F 11 ∧ F 11 ≤ 99)
    (g0 : z = 0 → HJ 190 224 lv [] h Q)
    (g1 : ∀ x2 : Int32, x2.toInt = F 11 → z ≠ 0 → k ≥ 2 → (-2147483648) ≤ F 11 → F 11 ≤ 2147483647 → HJ 190 205 lv [.int x2, .ref m] h Q)
    (g2 : ∀ x5 : Int32, x5.toInt = 10 * (F 11) → z ≠ 0 → k < 2 → (-2147483648) ≤ F 11 → F 11 ≤ 2147483647 → HJ 191 0 (lv_args 0 [.ref m]) [] h (fun v h' => HJ 190 194 lv (v.toList ++ [.int x5, .ref m]) h' Q))
    : HJ 190 174 lv [.int sx0] h Q := by
  refine hM_zeq (off := 50) (t := 224) rfl sq0 (by decide) rfl (fun c174 => ?_) (fun c174 => ?_) -- 174
  · exact g0 c174
  · refine hI_al (k := 0) rfl e0 rfl ?_ -- 177
    refine hI_il (k := 2) rfl e2 rfl ?_ -- 178
    refine hM_ic (n := 2) rfl (by decide) rfl (fun x1 q1 => ?_) -- 179
    refine hM_cge (off := 21) (t := 201) rfl lq2 q1 (by decide) rfl (fun c180 => ?_) (fun c180 => ?_) -- 180
    · refine hI_al (k := 0) rfl e0 rfl ?_ -- 201
      refine hM_gi M (by decide) rfl rfl rfl (k := 11) (c := 9) (lo := (-2147483648)) (hi := 2147483647) rfl rfl rfl rfl rfl (fun x2 q2 a2 b2 => ?_) -- 202
      exact g1 x2 q2 c174 c180 a2 b2
    · refine hM_bp (n := 10) rfl (by decide) rfl (fun x3 q3 => ?_) -- 183
      refine hI_al (k := 0) rfl e0 rfl ?_ -- 185
      refine hM_gi M (by decide) rfl rfl rfl (k := 11) (c := 9) (lo := (-2147483648)) (hi := 2147483647) rfl rfl rfl rfl rfl (fun x4 q4 a4 b4 => ?_) -- 186
      refine hM_mul rfl q3 q4 (by omega) (by omega) rfl (fun x5 q5 => ?_) -- 189
      refine hI_al (k := 0) rfl e0 rfl ?_ -- 190
      refine hM_iv M (by decide) rfl rfl (by decide) (as := []) (r := [.int x5, .ref m]) rfl rfl (by decide +kernel) rfl (by decide +kernel) rfl rfl rfl rfl rfl ?_ -- 191
      exact g2 x5 q5 c174 c180 a4 b4
theorem s_tk194 {c k a y : Int} (M : MX 49 W ρ m A h0 h F V G) (e0 : m_lk lv 0 = some (.ref m)) {lx1 : Int32} (e1 : m_lk lv 1 = some (.int lx1)) (lq1 : lx1.toInt = c) {lx2 : Int32} (e2 : m_lk lv 2 = some (.int lx2)) (lq2 : lx2.toInt = k) {sx1 : Int32} (sq1 : sx1.toInt = a) {sx2 : Int32} (sq2 : sx2.toInt = y) (a0 : 0 ≤ a) (a1 : a ≤ 1000) (y0 : 0 ≤ y) (y1 : y ≤ 255)
    (g0 : ∀ x3 : Int32, x3.toInt = (a + y) - 48 → HJ 190 205 lv [.int x3, .ref m] h Q)
    : HJ 190 194 lv [.int sx2, .int sx1, .ref m] h Q := by
  refine hM_add rfl sq1 sq2 (by omega) (by omega) rfl (fun x1 q1 => ?_) -- 194
  refine hM_bp (n := 48) rfl (by decide) rfl (fun x2 q2 => ?_) -- 195
  refine hM_sub rfl q1 q2 (by omega) (by omega) rfl (fun x3 q3 => ?_) -- 197
  refine hI_go (pc' := 205) (off := 7) rfl (by decide) ?_ -- 198
  exact g0 x3 q3
theorem s_tk205 {c k v : Int} (M : MX 49 W ρ m A h0 h F V G) (e0 : m_lk lv 0 = some (.ref m)) {lx1 : Int32} (e1 : m_lk lv 1 = some (.int lx1)) (lq1 : lx1.toInt = c) {lx2 : Int32} (e2 : m_lk lv 2 = some (.int lx2)) (lq2 : lx2.toInt = k) {sx1 : Int32} (sq1 : sx1.toInt = v) (i1 : F 7 ≤ 599) (k0 : 0 ≤ k) (k1 : k ≤ 600)(hw : d_sub [(49, 11), (49, 7)] W = true)
    (g0 : ∀ h1 : MH, ∀ F1 : Nat → Int, F1 = m_u F 11 (v) → ∀ h5 : MH, ∀ F5 : Nat → Int, F5 = m_u F1 7 ((F 7) + 1) → ∀ x6 : Int32, x6.toInt = k + 1 → ∀ lv6 : List (Nat × Value), MX 49 W ρ m A h0 h5 F5 V G → m_lk lv6 0 = some (.ref m) → m_lk lv6 1 = some (.int lx1) → m_lk lv6 2 = some (.int x6) → 0 ≤ F 7 → F 7 ≤ 600 → HJ 190 163 lv6 [] h5 Q)
    : HJ 190 205 lv [.int sx1, .ref m] h Q := by
  have lb1 : -2147483648 ≤ c ∧ c ≤ 2147483647 := by rw [← lq1]; exact g_iT _
  have lb2 : -2147483648 ≤ k ∧ k ≤ 2147483647 := by rw [← lq2]; exact g_iT _
  have sb1 : -2147483648 ≤ v ∧ v ≤ 2147483647 := by rw [← sq1]; exact g_iT _
  refine hM_pi M (by decide) ok_49 rfl rfl (k := 11) (c := 9) (lo := (-2147483648)) (hi := 2147483647) rfl rfl ⟨by decide, by decide +kernel, rfl⟩ rfl (d_subm hw (by decide +kernel)) sq1 (by omega) (by omega) rfl (fun h1 F1 f1 M1 => ?_) -- 205
  refine hI_al (k := 0) rfl e0 rfl ?_ -- 208
  refine hI_dup rfl rfl rfl ?_ -- 209
  refine hM_gi M1 (by decide) rfl rfl rfl (k := 7) (c := 9) (lo := 0) (hi := 600) rfl rfl rfl rfl rfl (fun x2 q2 a2 b2 => ?_) -- 210
  have q2 : x2.toInt = F 7 := by rw [q2, f1]; rfl
  have a2 := a2
  rw [f1] at a2 b2
  change 0 ≤ F 7 at a2
  change F 7 ≤ 600 at b2 -- 210
  refine hM_ic (n := 1) rfl (by decide) rfl (fun x3 q3 => ?_) -- 213
  refine hM_add rfl q2 q3 (by omega) (by omega) rfl (fun x4 q4 => ?_) -- 214
  refine hM_pi M1 (by decide) ok_49 rfl rfl (k := 7) (c := 9) (lo := 0) (hi := 600) rfl rfl ⟨by decide, by decide +kernel, rfl⟩ rfl (d_subm hw (by decide +kernel)) q4 (by omega) (by omega) rfl (fun h5 F5 f5 M5 => ?_) -- 215
  refine hM_inc (k := 2) (z := 1) rfl e2 lq2 (by decide) (by omega) (by omega) (by decide +kernel) rfl (fun lv6 x6 q6 e6_2 u6 => ?_) -- 218
  have e6_0 := u6 0 _ (by decide) (Or.inl rfl) e0
  have e6_1 := u6 1 _ (by decide) (Or.inl rfl) e1
  refine hI_go (pc' := 163) (off := (-58)) rfl (by decide) ?_ -- 221
  exact g0 h1 F1 f1 h5 F5 f5 x6 q6 lv6 M5 e6_0 e6_1 e6_2 a2 b2
theorem s_tk224 {c k : Int} (M : MX 49 W ρ m A h0 h F V G) (e0 : m_lk lv 0 = some (.ref m)) {lx1 : Int32} (e1 : m_lk lv 1 = some (.int lx1)) (lq1 : lx1.toInt = c) {lx2 : Int32} (e2 : m_lk lv 2 = some (.int lx2)) (lq2 : lx2.toInt = k) (hw : d_sub [(49, 10)] W = true)
    (g0 : ∀ h3 : MH, ∀ F3 : Nat → Int, F3 = m_u F 10 (3) → MX 49 W ρ m A h0 h3 F3 V G → k ≤ 2 → Q none h3)
    (g1 : ∀ h5 : MH, ∀ F5 : Nat → Int, F5 = m_u F 10 (1) → MX 49 W ρ m A h0 h5 F5 V G → k > 2 → Q none h5)
    : HJ 190 224 lv [] h Q := by
  refine hI_al (k := 0) rfl e0 rfl ?_ -- 224
  refine hI_il (k := 2) rfl e2 rfl ?_ -- 225
  refine hM_ic (n := 2) rfl (by decide) rfl (fun x1 q1 => ?_) -- 226
  refine hM_cle (off := 7) (t := 234) rfl lq2 q1 (by decide) rfl (fun c227 => ?_) (fun c227 => ?_) -- 227
  · refine hM_ic (n := 3) rfl (by decide) rfl (fun x2 q2 => ?_) -- 234
    refine hM_pi M (by decide) ok_49 rfl rfl (k := 10) (c := 9) (lo := (-2147483648)) (hi := 2147483647) rfl rfl ⟨by decide, by decide +kernel, rfl⟩ rfl (d_subm hw (by decide +kernel)) q2 (by omega) (by omega) rfl (fun h3 F3 f3 M3 => ?_) -- 235
    refine hI_go (pc' := 266) (off := 28) rfl (by decide) ?_ -- 238
    refine hI_rv rfl rfl ?_
    exact g0 h3 F3 f3 M3 c227
  · refine hM_ic (n := 1) rfl (by decide) rfl (fun x4 q4 => ?_) -- 230
    refine hI_go (pc' := 235) (off := 4) rfl (by decide) ?_ -- 231
    refine hM_pi M (by decide) ok_49 rfl rfl (k := 10) (c := 9) (lo := (-2147483648)) (hi := 2147483647) rfl rfl ⟨by decide, by decide +kernel, rfl⟩ rfl (d_subm hw (by decide +kernel)) q4 (by omega) (by omega) rfl (fun h5 F5 f5 M5 => ?_) -- 235
    refine hI_go (pc' := 266) (off := 28) rfl (by decide) ?_ -- 238
    refine hI_rv rfl rfl ?_
    exact g1 h5 F5 f5 M5 c227
theorem s_tk241 {c k : Int} (M : MX 49 W ρ m A h0 h F V G) (e0 : m_lk lv 0 = some (.ref m)) {lx1 : Int32} (e1 : m_lk lv 1 = some (.int lx1)) (lq1 : lx1.toInt = c) {lx2 : Int32} (e2 : m_lk lv 2 = some (.int lx2)) (lq2 : lx2.toInt = k) (i1 : F 7 ≤ 599)(hw : d_sub [(49, 7), (49, 10)] W = true)
    (g0 : ∀ h4 : MH, ∀ F4 : Nat → Int, F4 = m_u F 7 ((F 7) + 1) → ∀ h7 : MH, ∀ F7 : Nat → Int, F7 = m_u F4 10 (1) → MX 49 W ρ m A h0 h7 F7 V G → 0 ≤ F 7 → F 7 ≤ 600 → c ≠ 59 → Q none h7)
    (g1 : ∀ h4 : MH, ∀ F4 : Nat → Int, F4 = m_u F 7 ((F 7) + 1) → ∀ h9 : MH, ∀ F9 : Nat → Int, F9 = m_u F4 10 (4) → MX 49 W ρ m A h0 h9 F9 V G → 0 ≤ F 7 → F 7 ≤ 600 → c = 59 → Q none h9)
    : HJ 190 241 lv [] h Q := by
  refine hI_al (k := 0) rfl e0 rfl ?_ -- 241
  refine hI_dup rfl rfl rfl ?_ -- 242
  refine hM_gi M (by decide) rfl rfl rfl (k := 7) (c := 9) (lo := 0) (hi := 600) rfl rfl rfl rfl rfl (fun x1 q1 a1 b1 => ?_) -- 243
  refine hM_ic (n := 1) rfl (by decide) rfl (fun x2 q2 => ?_) -- 246
  refine hM_add rfl q1 q2 (by omega) (by omega) rfl (fun x3 q3 => ?_) -- 247
  refine hM_pi M (by decide) ok_49 rfl rfl (k := 7) (c := 9) (lo := 0) (hi := 600) rfl rfl ⟨by decide, by decide +kernel, rfl⟩ rfl (d_subm hw (by decide +kernel)) q3 (by omega) (by omega) rfl (fun h4 F4 f4 M4 => ?_) -- 248
  refine hI_al (k := 0) rfl e0 rfl ?_ -- 251
  refine hI_il (k := 1) rfl e1 rfl ?_ -- 252
  refine hM_bp (n := 59) rfl (by decide) rfl (fun x5 q5 => ?_) -- 253
  refine hM_cne (off := 7) (t := 262) rfl lq1 q5 (by decide) rfl (fun c255 => ?_) (fun c255 => ?_) -- 255
  · refine hM_ic (n := 1) rfl (by decide) rfl (fun x6 q6 => ?_) -- 262
    refine hM_pi M4 (by decide) ok_49 rfl rfl (k := 10) (c := 9) (lo := (-2147483648)) (hi := 2147483647) rfl rfl ⟨by decide, by decide +kernel, rfl⟩ rfl (d_subm hw (by decide +kernel)) q6 (by omega) (by omega) rfl (fun h7 F7 f7 M7 => ?_) -- 263
    refine hI_rv rfl rfl ?_
    exact g0 h4 F4 f4 h7 F7 f7 M7 a1 b1 c255
  · refine hM_ic (n := 4) rfl (by decide) rfl (fun x8 q8 => ?_) -- 258
    refine hI_go (pc' := 263) (off := 4) rfl (by decide) ?_ -- 259
    refine hM_pi M4 (by decide) ok_49 rfl rfl (k := 10) (c := 9) (lo := (-2147483648)) (hi := 2147483647) rfl rfl ⟨by decide, by decide +kernel, rfl⟩ rfl (d_subm hw (by decide +kernel)) q8 (by omega) (by omega) rfl (fun h9 F9 f9 M9 => ?_) -- 263
    refine hI_rv rfl rfl ?_
    exact g1 h4 F4 f4 h9 F9 f9 M9 a1 b1 c255
theorem s_tk266   
    (g0 : Q none h)
    : HJ 190 266 lv [] h Q := by
  refine hI_rv rfl rfl ?_
  exact g0 
theorem c_see {p n : Nat} (M : MX 49 W ρ m A h0 h F V G) (q7 : F 7 = (p : Int)) (q8 : F 8 = (n : Int)) (g : ∀ x : Int32, (p < n ∧ x.toInt = V 1 p % 256 ∧ -128 ≤ V 1 p ∧ V 1 p ≤ 127 ∧ n ≤ 600) ∨ (n ≤ p ∧ x.toInt = -1) → Q (some (.int x)) h) : HJ 191 0 (lv_args 0 [.ref m]) [] h Q := by
  have hp : (F 7).toNat = p := by omega
  refine s_see M rfl (fun x q _ _ _ _ c => g x (Or.inr ⟨by omega, q⟩)) (fun x q _ _ _ b8 c a b => g x (Or.inl ?_))
  rw [hp] at q a b
  exact ⟨by omega, q, a, b, by omega⟩
-- blanks
theorem l_mws {n S : Nat} {F0 : Nat → Int} (hw : d_sub [(49, 7)] W = true) (e0 : m_lk lv 0 = some (.ref m)) (g : ∀ (h' : MH) (F' : Nat → Int), MX 49 W ρ m A h0 h' F' V G → F' 7 = (S : Int) → (∀ K, K ≠ 7 → F' K = F0 K) → HJ 190 31 lv [] h' Q) : ∀ (d p : Nat) (h : MH) (F : Nat → Int), p + d = n → MX 49 W ρ m A h0 h F V G → F 8 = (n : Int) → F 7 = (p : Int) → (∀ K, K ≠ 7 → F K = F0 K) → rd_go rd_ws (V 1) d p = S → HJ 190 0 lv [] h Q := by
  intro d
  induction d with
  | zero =>
    intro p h F hd M q8 q7 o eS
    have eS : p = S := eS
    refine s_tk0 M e0 (c_see M q7 q8 (fun x hx => s_tk4 (z := x.toInt) M e0 rfl (fun c => by omega) hw (fun h5 F5 f5 M5 c _ _ => by omega) (fun _ => c_see M q7 q8 (fun y hy => s_tk13 (z := y.toInt) M e0 rfl (fun c => by omega) hw (fun _ => g h F M (by omega) o) (fun h5 F5 f5 M5 c _ _ => by omega)))))
  | succ d ih =>
    intro p h F hd M q8 q7 o eS
    have nx : ∀ (h5 : MH) (F5 : Nat → Int), F5 = m_u F 7 (F 7 + 1) → MX 49 W ρ m A h0 h5 F5 V G → rd_ws (V 1 p) = true → HJ 190 0 lv [] h5 Q := fun h5 F5 f5 M5 c => ih (p + 1) h5 F5 (by omega) M5 (by rw [f5, m_uN _ _ _ _ (by decide)]; exact q8) (by rw [f5, m_uE]; omega) (fun K hK => by rw [f5, m_uN _ _ _ _ hK]; exact o K hK) (by rw [← rd_goS c]; exact eS)
    refine s_tk0 M e0 (c_see M q7 q8 (fun x hx => s_tk4 (z := x.toInt) M e0 rfl (fun c => by omega) hw (fun h5 F5 f5 M5 c _ _ => nx h5 F5 f5 M5 (rd_wsT.mpr (by omega))) (fun c1 => c_see M q7 q8 (fun y hy => s_tk13 (z := y.toInt) M e0 rfl (fun c => by omega) hw (fun c2 => ?_) (fun h5 F5 f5 M5 c _ _ => nx h5 F5 f5 M5 (rd_wsT.mpr (by omega)))))))
    exact g h F M (by rw [← eS, rd_goE (rd_wsF.mpr (by omega))]; exact q7) o
-- letters and the number that they make
theorem l_mwd {n S s : Nat} {c : Int} {xc : Int32} {F0 : Nat → Int} (hw : d_sub [(49, 7), (49, 12)] W = true) (qc : xc.toInt = c) (g : ∀ (lv : List (Nat × Value)) (h' : MH) (F' : Nat → Int) (w : Int64) (xk : Int32), MX 49 W ρ m A h0 h' F' V G → F' 7 = (S : Int) → (∀ K, K ≠ 7 → F' K = F0 K) → h_l h' m 12 = w → xk.toInt = ((S - s : Nat) : Int) → (S - s ≤ 8 → w = Int64.ofNat (rd_w (V 1) s (S - s))) → (∀ i, i < S - s → 97 ≤ V 1 (s + i) ∧ V 1 (s + i) ≤ 122) → m_lk lv 0 = some (.ref m) → m_lk lv 1 = some (.int xc) → m_lk lv 2 = some (.int xk) → HJ 190 121 lv [] h' Q) : ∀ (d j : Nat) (lv : List (Nat × Value)) (h : MH) (F : Nat → Int) (w : Int64) (xk : Int32), s + j + d = n → n ≤ 600 → MX 49 W ρ m A h0 h F V G → F 8 = (n : Int) → F 7 = ((s + j : Nat) : Int) → (∀ K, K ≠ 7 → F K = F0 K) → h_l h m 12 = w → xk.toInt = (j : Int) → (j ≤ 8 → w = Int64.ofNat (rd_w (V 1) s j)) → (∀ i, i < j → 97 ≤ V 1 (s + i) ∧ V 1 (s + i) ≤ 122) → m_lk lv 0 = some (.ref m) → m_lk lv 1 = some (.int xc) → m_lk lv 2 = some (.int xk) → rd_go rd_al (V 1) d (s + j) = S → HJ 190 74 lv [] h Q := by
  intro d
  induction d with
  | zero =>
    intro j lv h F w xk hd n6 M q8 q7 o wl qk wj hb e0 e1 e2 eS
    have eS : s + j = S := eS
    have ej : S - s = j := by omega
    refine s_tk74 M e0 e1 qc e2 qk (c_see M q7 q8 (fun x hx => s_tk78 (y := x.toInt) M e0 e1 qc e2 qk rfl (fun x1 r1 x2 r2 => c_in M rfl r1 r2 (fun z hz => s_tk85 (z := z.toInt) (w := w) M e0 e1 qc e2 qk rfl wl (fun _ => g lv h F w xk M (by omega) o wl (by rw [ej]; exact qk) (by rw [ej]; exact wj) (by rw [ej]; exact hb) e0 e1 e2) (fun c0 => by omega)))))
  | succ d ih =>
    intro j lv h F w xk hd n6 M q8 q7 o wl qk wj hb e0 e1 e2 eS
    refine s_tk74 M e0 e1 qc e2 qk (c_see M q7 q8 (fun x hx => s_tk78 (y := x.toInt) M e0 e1 qc e2 qk rfl (fun x1 r1 x2 r2 => c_in M rfl r1 r2 (fun z hz => s_tk85 (z := z.toInt) (w := w) M e0 e1 qc e2 qk rfl wl (fun c0 => ?_) (fun c0 => ?_)))))
    · have eS : s + j = S := by rw [← eS, rd_goE (rd_alF.mpr (by omega))]
      have ej : S - s = j := by omega
      exact g lv h F w xk M (by omega) o wl (by rw [ej]; exact qk) (by rw [ej]; exact wj) (by rw [ej]; exact hb) e0 e1 e2
    · have ha : 97 ≤ V 1 (s + j) ∧ V 1 (s + j) ≤ 122 := by omega
      have hb2 : ∀ i, i < j + 1 → 97 ≤ V 1 (s + i) ∧ V 1 (s + i) ≤ 122 := fun i hi => by
        by_cases e : i = j
        · rw [e]; exact ha
        · exact hb i (by omega)
      refine c_see M q7 q8 (fun y hy => s_tk100 (y := y.toInt) M e0 e1 qc e2 qk rfl (d_subm hw (by decide +kernel)) (fun h1 y1 M1 => s_tk105 (MX.again M1 [(49, 7)]) e0 e1 qc e2 qk (by omega) (by omega) (by omega) (by decide +kernel) (fun h4 F4 f4 x5 q5 lv5 M4 d0 d1 d2 _ _ => ?_)))
      refine ih (j + 1) lv5 h4 F4 _ x5 (by omega) n6 (M1.re M4 (d_subm hw (by decide +kernel))) (by rw [f4, m_uN _ _ _ _ (by decide)]; exact q8) (by rw [f4, m_uE]; omega) (fun K hK => by rw [f4, m_uN _ _ _ _ hK]; exact o K hK) ((M4.lf (by decide) (by decide +kernel)).trans y1) (by omega) (fun j9 => ?_) hb2 d0 d1 d2 (by rw [← Nat.add_assoc, ← rd_goS (rd_alT.mpr ha)]; exact eS)
      have bw := rd_wB (T := V 1) (s := s) j hb
      have b7 : 256 ^ j ≤ 256 ^ 7 := Nat.pow_le_pow_right (by decide) (by omega)
      rw [wj (by omega), l_step (by omega) (by omega) (by omega), rd_w, show y.toInt.toNat = (V 1 (s + j)).toNat by omega]
-- what the number of a word says of it
def wd_ok (w : Int64) (T : Nat → Int) (s b : Nat) : Prop := ∀ k, k < 6 → (w = Int64.ofNat (rd_W k) ↔ rd_is T s b (rd_nm k))
theorem wd_lo {w : Int64} {T : Nat → Int} {s b : Nat} (sb : s ≤ b) (e : w = Int64.ofNat (rd_w T s (b - s))) (j8 : b - s ≤ 8) (hb : ∀ i, i < b - s → 97 ≤ T (s + i) ∧ T (s + i) ≤ 122) : wd_ok w T s b := fun k hk => by
  have bw := rd_wB (T := T) (s := s) (b - s) hb
  have b8 : 256 ^ (b - s) ≤ 256 ^ 8 := Nat.pow_le_pow_right (by decide) j8
  have bk := rd_WB (k := k)
  rw [e, l_ofN (by omega) (by omega), rd_wk hk j8 hb, show s + (b - s) = b by omega]
theorem wd_hi {w : Int64} {T : Nat → Int} {s b : Nat} (e : w = Int64.ofNat 0) (j8 : 8 < b - s) : wd_ok w T s b := fun k hk => by
  have bk := rd_WB (k := k)
  have bl := rd_nmL hk
  rw [e, l_ofN (by decide) (by omega), rd_isT]
  exact ⟨fun z => absurd z.symm (rd_W0 hk), fun z => by omega⟩
-- digits
theorem l_mnb {n S s : Nat} {c : Int} {xc : Int32} {F0 : Nat → Int} (hw : d_sub [(49, 7), (49, 11)] W = true) (qc : xc.toInt = c) (g : ∀ (lv : List (Nat × Value)) (h' : MH) (F' : Nat → Int) (xk : Int32), MX 49 W ρ m A h0 h' F' V G → F' 7 = (S : Int) → (s < S → S - s ≤ 2 → F' 11 = rd_nb (V 1) s S) → (∀ K, K ≠ 7 → K ≠ 11 → F' K = F0 K) → xk.toInt = ((S - s : Nat) : Int) → m_lk lv 0 = some (.ref m) → m_lk lv 1 = some (.int xc) → m_lk lv 2 = some (.int xk) → HJ 190 224 lv [] h' Q) : ∀ (d j : Nat) (lv : List (Nat × Value)) (h : MH) (F : Nat → Int) (xk : Int32), s + j + d = n → n ≤ 600 → MX 49 W ρ m A h0 h F V G → F 8 = (n : Int) → F 7 = ((s + j : Nat) : Int) → (j = 0 → F 11 = 0) → (1 ≤ j → j ≤ 2 → F 11 = rd_nb (V 1) s (s + j)) → (j = 1 → 0 ≤ F 11 ∧ F 11 ≤ 9) → (∀ K, K ≠ 7 → K ≠ 11 → F K = F0 K) → xk.toInt = (j : Int) → m_lk lv 0 = some (.ref m) → m_lk lv 1 = some (.int xc) → m_lk lv 2 = some (.int xk) → rd_go rd_dg (V 1) d (s + j) = S → HJ 190 163 lv [] h Q := by
  intro d
  induction d with
  | zero =>
    intro j lv h F xk hd n6 M q8 q7 v0 v1 v2 o qk e0 e1 e2 eS
    have eS : s + j = S := eS
    have ej : S - s = j := by omega
    refine s_tk163 M e0 e1 qc e2 qk (c_see M q7 q8 (fun x hx => s_tk167 (y := x.toInt) M e0 e1 qc e2 qk rfl (fun x1 r1 x2 r2 => c_in M rfl r1 r2 (fun z hz => s_tk174 (z := z.toInt) M e0 e1 qc e2 qk rfl (fun c => by
      by_cases e : j = 0
      · have := v0 e; omega
      · have := v2 (by omega); omega) (fun _ => g lv h F xk M (by omega) (fun a b => by rw [← eS]; exact v1 (by omega) (by omega)) o (by rw [ej]; exact qk) e0 e1 e2) (fun _ _ c0 => by omega) (fun _ _ c0 => by omega)))))
  | succ d ih =>
    intro j lv h F xk hd n6 M q8 q7 v0 v1 v2 o qk e0 e1 e2 eS
    have vv : j < 2 → 0 ≤ F 11 ∧ F 11 ≤ 99 := fun c => by
      by_cases e : j = 0
      · have := v0 e; omega
      · have := v2 (by omega); omega
    refine s_tk163 M e0 e1 qc e2 qk (c_see M q7 q8 (fun x hx => s_tk167 (y := x.toInt) M e0 e1 qc e2 qk rfl (fun x1 r1 x2 r2 => c_in M rfl r1 r2 (fun z hz => s_tk174 (z := z.toInt) M e0 e1 qc e2 qk rfl (fun c => vv (by omega)) (fun c0 => ?_) (fun x2 p2 c0 ck _ _ => ?_) (fun x5 p5 c0 ck _ _ => ?_)))))
    · have eS : s + j = S := by rw [← eS, rd_goE (rd_dgF.mpr (by omega))]
      have ej : S - s = j := by omega
      exact g lv h F xk M (by omega) (fun a b => by rw [← eS]; exact v1 (by omega) (by omega)) o (by rw [ej]; exact qk) e0 e1 e2
    · have ha : 48 ≤ V 1 (s + j) ∧ V 1 (s + j) ≤ 57 := by omega
      refine s_tk205 (v := F 11) M e0 e1 qc e2 qk p2 (by omega) (by omega) (by omega) (d_subm hw (by decide +kernel)) (fun h1 F1 f1 h5 F5 f5 x6 q6 lv6 M5 d0 d1 d2 _ _ => ?_)
      exact ih (j + 1) lv6 h5 F5 x6 (by omega) n6 M5 (by rw [f5, m_uN _ _ _ _ (by decide), f1, m_uN _ _ _ _ (by decide)]; exact q8) (by rw [f5, m_uE]; omega) (fun y => by omega) (fun _ y => by omega) (fun y => by omega) (fun K h7 h11 => by rw [f5, m_uN _ _ _ _ h7, f1, m_uN _ _ _ _ h11]; exact o K h7 h11) (by omega) d0 d1 d2 (by rw [← Nat.add_assoc, ← rd_goS (rd_dgT.mpr ha)]; exact eS)
    · have ha : 48 ≤ V 1 (s + j) ∧ V 1 (s + j) ≤ 57 := by omega
      have v9 := vv (by omega)
      refine c_see M q7 q8 (fun y hy => s_tk194 (a := 10 * F 11) (y := y.toInt) M e0 e1 qc e2 qk p5 rfl (by omega) (by omega) (by omega) (by omega) (fun x3 p3 => s_tk205 (v := 10 * F 11 + y.toInt - 48) M e0 e1 qc e2 qk p3 (by omega) (by omega) (by omega) (d_subm hw (by decide +kernel)) (fun h1 F1 f1 h5 F5 f5 x6 q6 lv6 M5 d0 d1 d2 _ _ => ?_)))
      have f11 : F5 11 = 10 * F 11 + V 1 (s + j) - 48 := by
        rw [f5, m_uN _ _ _ _ (by decide), f1, m_uE]
        omega
      refine ih (j + 1) lv6 h5 F5 x6 (by omega) n6 M5 (by rw [f5, m_uN _ _ _ _ (by decide), f1, m_uN _ _ _ _ (by decide)]; exact q8) (by rw [f5, m_uE]; omega) (fun y => by omega) (fun _ y2 => ?_) (fun y1 => ?_) (fun K h7 h11 => by rw [f5, m_uN _ _ _ _ h7, f1, m_uN _ _ _ _ h11]; exact o K h7 h11) (by omega) d0 d1 d2 (by rw [← Nat.add_assoc, ← rd_goS (rd_dgT.mpr ha)]; exact eS)
      · rw [f11]
        unfold rd_nb
        by_cases e : j = 0
        · rw [if_pos (by omega), v0 e, e]
          simp only [Nat.add_zero]
          omega
        · have e1 : j = 1 := by omega
          have v := v1 (by omega) (by omega)
          unfold rd_nb at v
          rw [if_pos (by omega)] at v
          rw [if_neg (by omega), v, e1]
          omega
      · rw [f11, v0 (by omega)]
        omega
def w_mt : List (Nat × Nat) := [(49, 7), (49, 9), (49, 10), (49, 11), (49, 12)]
-- the sort of a token, as the reference has it
def rt_m (t : Int) : Int := if t = 0 then 0 else if t = 1 then 2 else if t = 2 then 3 else if t = 3 then 4 else 1
theorem c_mtk {n p : Nat} (M : MX 49 W ρ m A h0 h F V G) (hw : d_sub w_mt W = true) (q8 : F 8 = (n : Int)) (q7 : F 7 = (p : Int)) (pn : p ≤ n) (g : ∀ (h' : MH) (F' : Nat → Int), MX 49 W ρ m A h0 h' F' V G → F' 9 = (rt_s (rd_tk (V 1) n p) : Int) → F' 7 = (rt_b (rd_tk (V 1) n p) : Int) → F' 10 = rt_m (rt_t (rd_tk (V 1) n p)) → (rt_t (rd_tk (V 1) n p) = 2 → F' 11 = rt_v (rd_tk (V 1) n p)) → (rt_t (rd_tk (V 1) n p) = 1 → wd_ok (h_l h' m 12) (V 1) (rt_s (rd_tk (V 1) n p)) (rt_b (rd_tk (V 1) n p))) → (∀ K, K ≠ 7 → K ≠ 9 → K ≠ 10 → K ≠ 11 → F' K = F K) → Q none h') : HJ 190 0 (lv_args 0 [.ref m]) [] h Q := by
  have hb := rd_goB (f := rd_ws) (T := V 1) (n - p) p
  have n6 : n ≤ 600 := by
    have := (M.fi (by decide) (k := 8) (lo := 0) (hi := 600) rfl rfl rfl).2
    omega
  refine l_mws (n := n) (S := rd_go rd_ws (V 1) (n - p) p) (F0 := F) (d_subm hw (by decide +kernel)) rfl (fun h3 F3 M3 e7 o3 => ?_) (n - p) p h F (by omega) M q8 q7 (fun _ _ => rfl) rfl
  generalize hs : rd_go rd_ws (V 1) (n - p) p = s at hb e7
  have e8 : F3 8 = (n : Int) := by rw [o3 8 (by decide)]; exact q8
  refine s_tk31 M3 rfl (d_subm hw (by decide +kernel)) (fun h2 F2 f2 M2 _ _ => ?_)
  have a7 : F2 7 = (s : Int) := by rw [f2, m_uN _ _ _ _ (by decide)]; exact e7
  have a8 : F2 8 = (n : Int) := by rw [f2, m_uN _ _ _ _ (by decide)]; exact e8
  have a9 : F2 9 = (s : Int) := by rw [f2, m_uE]; exact e7
  have ao : ∀ K, K ≠ 7 → K ≠ 9 → F2 K = F K := fun K h7 h9 => by rw [f2, m_uN _ _ _ _ h9]; exact o3 K h7
  refine c_see M2 a7 a8 (fun c hc => s_tk43 (z := c.toInt) M2 rfl rfl (fun lv1 d0 d1 => s_tk44 M2 d0 d1 rfl (d_subm hw (by decide +kernel)) (fun h1 y1 x2 q2 x4 q4 x5 q5 lv3 M1 d0 d1 d2 c0 => ?_) (fun h1 y1 h7 F7 f7 lv3 M7 c0 => ?_)))
  · have sn : s < n := by omega
    refine c_in M1 rfl q4 q5 (fun z hz => s_tk71 (z := z.toInt) M1 d0 d1 rfl d2 q2 rfl (fun xa pa xb pb z0 => ?_) (fun z1 => ?_))
    · have hal : rd_al (V 1 s) = false := rd_alF.mpr (by omega)
      refine c_in M1 rfl pa pb (fun y hy => s_tk155 (z := y.toInt) M1 d0 d1 rfl d2 q2 rfl (d_subm hw (by decide +kernel)) (fun y0 => ?_) (fun h6 F6 f6 M6 y0 => ?_))
      · have hdg : rd_dg (V 1 s) = false := rd_dgF.mpr (by omega)
        rw [rd_tk3 hs sn hal hdg] at g
        refine s_tk241 M1 d0 d1 rfl d2 q2 (by omega) (d_subm hw (by decide +kernel)) (fun h4 F4 f4 h5 F5 f5 M5 _ _ c59 => ?_) (fun h4 F4 f4 h5 F5 f5 M5 _ _ c59 => ?_)
        · rw [if_neg (by omega)] at g
          exact g h5 F5 M5 (by rw [f5, m_uN _ _ _ _ (by decide), f4, m_uN _ _ _ _ (by decide)]; exact a9) (by rw [f5, m_uN _ _ _ _ (by decide), f4, m_uE, a7]; rfl) (by rw [f5, m_uE]; rfl) (fun y => absurd (show (4 : Int) = 2 from y) (by decide)) (fun y => absurd (show (4 : Int) = 1 from y) (by decide)) (fun K k7 k9 k10 k11 => by rw [f5, m_uN _ _ _ _ k10, f4, m_uN _ _ _ _ k7]; exact ao K k7 k9)
        · rw [if_pos (by omega)] at g
          exact g h5 F5 M5 (by rw [f5, m_uN _ _ _ _ (by decide), f4, m_uN _ _ _ _ (by decide)]; exact a9) (by rw [f5, m_uN _ _ _ _ (by decide), f4, m_uE, a7]; rfl) (by rw [f5, m_uE]; rfl) (fun y => absurd (show (3 : Int) = 2 from y) (by decide)) (fun y => absurd (show (3 : Int) = 1 from y) (by decide)) (fun K k7 k9 k10 k11 => by rw [f5, m_uN _ _ _ _ k10, f4, m_uN _ _ _ _ k7]; exact ao K k7 k9)
      · have hdg : rd_dg (V 1 s) = true := rd_dgT.mpr (by omega)
        have hb9 := rd_goB (f := rd_dg) (T := V 1) (n - s) s
        have hs9 : s < rd_go rd_dg (V 1) (n - s) s := by
          have e : n - s = (n - s - 1) + 1 := by omega
          rw [e, rd_goS hdg]
          have := (rd_goB (f := rd_dg) (T := V 1) (n - s - 1) (s + 1)).1
          omega
        rw [rd_tk2 hs sn hal hdg] at g
        refine l_mnb (S := rd_go rd_dg (V 1) (n - s) s) (s := s) (n := n) (F0 := F6) (d_subm hw (by decide +kernel)) rfl (fun lv h9 F9 xk M9 r7 rv ro rk i0 i1 i2 => ?_) (n - s) 0 lv3 h6 F6 x2 (by omega) n6 M6 (by rw [f6, m_uN _ _ _ _ (by decide)]; exact a8) (by rw [f6, m_uN _ _ _ _ (by decide)]; exact a7) (fun _ => by rw [f6, m_uE]) (fun y => by omega) (fun y => by omega) (fun _ _ _ => rfl) q2 d0 d1 d2 rfl
        have r9 : F9 9 = (s : Int) := by rw [ro 9 (by decide) (by decide), f6, m_uN _ _ _ _ (by decide)]; exact a9
        refine s_tk224 M9 i0 i1 rfl i2 rk (d_subm hw (by decide +kernel)) (fun h4 F4 f4 M4 ck => ?_) (fun h4 F4 f4 M4 ck => ?_)
        · have ck2 : rd_go rd_dg (V 1) (n - s) s - s ≤ 2 := by omega
          rw [if_pos ck2] at g
          exact g h4 F4 M4 (by rw [f4, m_uN _ _ _ _ (by decide)]; exact r9) (by rw [f4, m_uN _ _ _ _ (by decide)]; exact r7) (by rw [f4, m_uE]; rfl) (fun _ => by rw [f4, m_uN _ _ _ _ (by decide)]; exact rv hs9 ck2) (fun y => absurd (show (2 : Int) = 1 from y) (by decide)) (fun K k7 k9 k10 k11 => by rw [f4, m_uN _ _ _ _ k10, ro K k7 k11, f6, m_uN _ _ _ _ k11]; exact ao K k7 k9)
        · have ck2 : ¬ rd_go rd_dg (V 1) (n - s) s - s ≤ 2 := by omega
          rw [if_neg ck2] at g
          exact g h4 F4 M4 (by rw [f4, m_uN _ _ _ _ (by decide)]; exact r9) (by rw [f4, m_uN _ _ _ _ (by decide)]; exact r7) (by rw [f4, m_uE]; rfl) (fun y => absurd (show (4 : Int) = 2 from y) (by decide)) (fun y => absurd (show (4 : Int) = 1 from y) (by decide)) (fun K k7 k9 k10 k11 => by rw [f4, m_uN _ _ _ _ k10, ro K k7 k11, f6, m_uN _ _ _ _ k11]; exact ao K k7 k9)
    · have hal : rd_al (V 1 s) = true := rd_alT.mpr (by omega)
      have hb9 := rd_goB (f := rd_al) (T := V 1) (n - s) s
      rw [rd_tk1 hs sn hal] at g
      refine l_mwd (S := rd_go rd_al (V 1) (n - s) s) (s := s) (n := n) (F0 := F2) (d_subm hw (by decide +kernel)) rfl (fun lv h9 F9 w xk M9 r7 ro wl rk wj hl i0 i1 i2 => ?_) (n - s) 0 lv3 h1 F2 _ x2 (by omega) n6 M1 a8 a7 (fun _ _ => rfl) y1 q2 (fun _ => rfl) (fun i hi => absurd hi (Nat.not_lt_zero i)) d0 d1 d2 rfl
      have r9 : F9 9 = (s : Int) := by rw [ro 9 (by decide)]; exact a9
      have fin : ∀ (h5 : MH), MX 49 W ρ m A h0 h5 F9 V G → wd_ok (h_l h5 m 12) (V 1) s (rd_go rd_al (V 1) (n - s) s) → HJ 190 139 lv [] h5 Q := fun h5 M5 ok => s_tk139 (MX.again M5 [(49, 10)]) i0 (by decide +kernel) (fun h4 F4 f4 M4 => g h4 F4 (M5.re M4 (d_subm hw (by decide +kernel))) (by rw [f4, m_uN _ _ _ _ (by decide)]; exact r9) (by rw [f4, m_uN _ _ _ _ (by decide)]; exact r7) (by rw [f4, m_uE]; rfl) (fun y => absurd (show (1 : Int) = 2 from y) (by decide)) (fun _ => by rw [M4.lf (k := 12) (by decide) (by decide +kernel)]; exact ok) (fun K k7 k9 k10 k11 => by rw [f4, m_uN _ _ _ _ k10, ro K k7]; exact ao K k7 k9))
      refine s_tk121 (w := w) M9 i0 i1 rfl i2 rk wl (d_subm hw (by decide +kernel)) (fun h5 y5 M5 ck => fin h5 M5 ?_) (fun h5 y5 M5 ck => fin h5 M5 ?_)
      · rw [y5]
        exact wd_lo hb9.1 (wj (by omega)) (by omega) hl
      · rw [y5]
        exact wd_hi rfl (by omega)
  · have sn : n ≤ s := by omega
    have es : rd_tk (V 1) n p = (s, (s, (0, -1))) := by
      rw [← hs]
      exact rd_tk0 (by omega)
    rw [es] at g
    exact g h7 F7 M7 (by rw [f7, m_uN _ _ _ _ (by decide)]; exact a9) (by rw [f7, m_uN _ _ _ _ (by decide)]; exact a7) (by rw [f7, m_uE]; rfl) (fun y => absurd (show (0 : Int) = 2 from y) (by decide)) (fun y => absurd (show (0 : Int) = 1 from y) (by decide)) (fun K k7 k9 k10 k11 => by rw [f7, m_uN _ _ _ _ k10]; exact ao K k7 k9)
end
end
