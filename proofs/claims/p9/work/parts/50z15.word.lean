-- WORDS AS NUMBERS
def rd_w (T : Nat → Int) (s : Nat) : Nat → Nat
  | 0 => 0
  | j + 1 => 256 * rd_w T s j + (T (s + j)).toNat
theorem rd_wB {T : Nat → Int} {s : Nat} : ∀ (j : Nat), (∀ i, i < j → 97 ≤ T (s + i) ∧ T (s + i) ≤ 122) → rd_w T s j < 256 ^ j
  | 0, _ => by
    show (0 : Nat) < 1
    decide
  | j + 1, h => by
    have h1 := rd_wB (T := T) (s := s) j (fun i hi => h i (by omega))
    have h2 := h j (by omega)
    rw [rd_w, Nat.pow_succ]
    have h3 : (T (s + j)).toNat < 256 := by omega
    have h4 : 256 * (rd_w T s j + 1) ≤ 256 * 256 ^ j := Nat.mul_le_mul_left 256 h1
    omega
def rd_W (k : Nat) : Nat := match k with
  | 0 => 7234935
  | 1 => 7370100
  | 2 => 1835363428
  | 3 => 1818588019
  | 4 => 465726563698
  | 5 => 6518132
  | _ => 0
theorem rd_wk0 {T : Nat → Int} {s j : Nat} (j8 : j ≤ 8) (hb : ∀ i, i < j → 97 ≤ T (s + i) ∧ T (s + i) ≤ 122) : rd_w T s j = 7234935 ↔ rd_is T s (s + j) (rd_nm 0) := by
  rw [rd_isT]
  constructor
  · intro h
    rcases (show j = 0 ∨ j = 1 ∨ j = 2 ∨ j = 3 ∨ j = 4 ∨ j = 5 ∨ j = 6 ∨ j = 7 ∨ j = 8 by omega) with rfl | rfl | rfl | rfl | rfl | rfl | rfl | rfl | rfl
    · exfalso
      simp only [rd_w] at h
      omega
    · exfalso
      have b0 := hb 0 (by decide)
      simp only [rd_w] at h
      omega
    · exfalso
      have b0 := hb 0 (by decide)
      have b1 := hb 1 (by decide)
      simp only [rd_w] at h
      omega
    · refine ⟨rfl, fun i hi => ?_⟩
      have hi : i < 3 := hi
      have b0 := hb 0 (by decide)
      have b1 := hb 1 (by decide)
      have b2 := hb 2 (by decide)
      simp only [rd_w] at h
      rcases (show i = 0 ∨ i = 1 ∨ i = 2 by omega) with rfl | rfl | rfl
      · show T (s + 0) = 110
        omega
      · show T (s + 1) = 101
        omega
      · show T (s + 2) = 119
        omega
    · exfalso
      have b0 := hb 0 (by decide)
      have b1 := hb 1 (by decide)
      have b2 := hb 2 (by decide)
      have b3 := hb 3 (by decide)
      simp only [rd_w] at h
      omega
    · exfalso
      have b0 := hb 0 (by decide)
      have b1 := hb 1 (by decide)
      have b2 := hb 2 (by decide)
      have b3 := hb 3 (by decide)
      have b4 := hb 4 (by decide)
      simp only [rd_w] at h
      omega
    · exfalso
      have b0 := hb 0 (by decide)
      have b1 := hb 1 (by decide)
      have b2 := hb 2 (by decide)
      have b3 := hb 3 (by decide)
      have b4 := hb 4 (by decide)
      have b5 := hb 5 (by decide)
      simp only [rd_w] at h
      omega
    · exfalso
      have b0 := hb 0 (by decide)
      have b1 := hb 1 (by decide)
      have b2 := hb 2 (by decide)
      have b3 := hb 3 (by decide)
      have b4 := hb 4 (by decide)
      have b5 := hb 5 (by decide)
      have b6 := hb 6 (by decide)
      simp only [rd_w] at h
      omega
    · exfalso
      have b0 := hb 0 (by decide)
      have b1 := hb 1 (by decide)
      have b2 := hb 2 (by decide)
      have b3 := hb 3 (by decide)
      have b4 := hb 4 (by decide)
      have b5 := hb 5 (by decide)
      have b6 := hb 6 (by decide)
      have b7 := hb 7 (by decide)
      simp only [rd_w] at h
      omega
  · intro ⟨e, h⟩
    have e : s + j = s + 3 := e
    have e2 : j = 3 := by omega
    subst e2
    have h0 : T (s + 0) = 110 := h 0 (by decide)
    have h1 : T (s + 1) = 101 := h 1 (by decide)
    have h2 : T (s + 2) = 119 := h 2 (by decide)
    simp only [rd_w]
    rw [h0, h1, h2]
    decide
theorem rd_wk1 {T : Nat → Int} {s j : Nat} (j8 : j ≤ 8) (hb : ∀ i, i < j → 97 ≤ T (s + i) ∧ T (s + i) ≤ 122) : rd_w T s j = 7370100 ↔ rd_is T s (s + j) (rd_nm 1) := by
  rw [rd_isT]
  constructor
  · intro h
    rcases (show j = 0 ∨ j = 1 ∨ j = 2 ∨ j = 3 ∨ j = 4 ∨ j = 5 ∨ j = 6 ∨ j = 7 ∨ j = 8 by omega) with rfl | rfl | rfl | rfl | rfl | rfl | rfl | rfl | rfl
    · exfalso
      simp only [rd_w] at h
      omega
    · exfalso
      have b0 := hb 0 (by decide)
      simp only [rd_w] at h
      omega
    · exfalso
      have b0 := hb 0 (by decide)
      have b1 := hb 1 (by decide)
      simp only [rd_w] at h
      omega
    · refine ⟨rfl, fun i hi => ?_⟩
      have hi : i < 3 := hi
      have b0 := hb 0 (by decide)
      have b1 := hb 1 (by decide)
      have b2 := hb 2 (by decide)
      simp only [rd_w] at h
      rcases (show i = 0 ∨ i = 1 ∨ i = 2 by omega) with rfl | rfl | rfl
      · show T (s + 0) = 112
        omega
      · show T (s + 1) = 117
        omega
      · show T (s + 2) = 116
        omega
    · exfalso
      have b0 := hb 0 (by decide)
      have b1 := hb 1 (by decide)
      have b2 := hb 2 (by decide)
      have b3 := hb 3 (by decide)
      simp only [rd_w] at h
      omega
    · exfalso
      have b0 := hb 0 (by decide)
      have b1 := hb 1 (by decide)
      have b2 := hb 2 (by decide)
      have b3 := hb 3 (by decide)
      have b4 := hb 4 (by decide)
      simp only [rd_w] at h
      omega
    · exfalso
      have b0 := hb 0 (by decide)
      have b1 := hb 1 (by decide)
      have b2 := hb 2 (by decide)
      have b3 := hb 3 (by decide)
      have b4 := hb 4 (by decide)
      have b5 := hb 5 (by decide)
      simp only [rd_w] at h
      omega
    · exfalso
      have b0 := hb 0 (by decide)
      have b1 := hb 1 (by decide)
      have b2 := hb 2 (by decide)
      have b3 := hb 3 (by decide)
      have b4 := hb 4 (by decide)
      have b5 := hb 5 (by decide)
      have b6 := hb 6 (by decide)
      simp only [rd_w] at h
      omega
    · exfalso
      have b0 := hb 0 (by decide)
      have b1 := hb 1 (by decide)
      have b2 := hb 2 (by decide)
      have b3 := hb 3 (by decide)
      have b4 := hb 4 (by decide)
      have b5 := hb 5 (by decide)
      have b6 := hb 6 (by decide)
      have b7 := hb 7 (by decide)
      simp only [rd_w] at h
      omega
  · intro ⟨e, h⟩
    have e : s + j = s + 3 := e
    have e2 : j = 3 := by omega
    subst e2
    have h0 : T (s + 0) = 112 := h 0 (by decide)
    have h1 : T (s + 1) = 117 := h 1 (by decide)
    have h2 : T (s + 2) = 116 := h 2 (by decide)
    simp only [rd_w]
    rw [h0, h1, h2]
    decide
theorem rd_wk2 {T : Nat → Int} {s j : Nat} (j8 : j ≤ 8) (hb : ∀ i, i < j → 97 ≤ T (s + i) ∧ T (s + i) ≤ 122) : rd_w T s j = 1835363428 ↔ rd_is T s (s + j) (rd_nm 2) := by
  rw [rd_isT]
  constructor
  · intro h
    rcases (show j = 0 ∨ j = 1 ∨ j = 2 ∨ j = 3 ∨ j = 4 ∨ j = 5 ∨ j = 6 ∨ j = 7 ∨ j = 8 by omega) with rfl | rfl | rfl | rfl | rfl | rfl | rfl | rfl | rfl
    · exfalso
      simp only [rd_w] at h
      omega
    · exfalso
      have b0 := hb 0 (by decide)
      simp only [rd_w] at h
      omega
    · exfalso
      have b0 := hb 0 (by decide)
      have b1 := hb 1 (by decide)
      simp only [rd_w] at h
      omega
    · exfalso
      have b0 := hb 0 (by decide)
      have b1 := hb 1 (by decide)
      have b2 := hb 2 (by decide)
      simp only [rd_w] at h
      omega
    · refine ⟨rfl, fun i hi => ?_⟩
      have hi : i < 4 := hi
      have b0 := hb 0 (by decide)
      have b1 := hb 1 (by decide)
      have b2 := hb 2 (by decide)
      have b3 := hb 3 (by decide)
      simp only [rd_w] at h
      rcases (show i = 0 ∨ i = 1 ∨ i = 2 ∨ i = 3 by omega) with rfl | rfl | rfl | rfl
      · show T (s + 0) = 109
        omega
      · show T (s + 1) = 101
        omega
      · show T (s + 2) = 108
        omega
      · show T (s + 3) = 100
        omega
    · exfalso
      have b0 := hb 0 (by decide)
      have b1 := hb 1 (by decide)
      have b2 := hb 2 (by decide)
      have b3 := hb 3 (by decide)
      have b4 := hb 4 (by decide)
      simp only [rd_w] at h
      omega
    · exfalso
      have b0 := hb 0 (by decide)
      have b1 := hb 1 (by decide)
      have b2 := hb 2 (by decide)
      have b3 := hb 3 (by decide)
      have b4 := hb 4 (by decide)
      have b5 := hb 5 (by decide)
      simp only [rd_w] at h
      omega
    · exfalso
      have b0 := hb 0 (by decide)
      have b1 := hb 1 (by decide)
      have b2 := hb 2 (by decide)
      have b3 := hb 3 (by decide)
      have b4 := hb 4 (by decide)
      have b5 := hb 5 (by decide)
      have b6 := hb 6 (by decide)
      simp only [rd_w] at h
      omega
    · exfalso
      have b0 := hb 0 (by decide)
      have b1 := hb 1 (by decide)
      have b2 := hb 2 (by decide)
      have b3 := hb 3 (by decide)
      have b4 := hb 4 (by decide)
      have b5 := hb 5 (by decide)
      have b6 := hb 6 (by decide)
      have b7 := hb 7 (by decide)
      simp only [rd_w] at h
      omega
  · intro ⟨e, h⟩
    have e : s + j = s + 4 := e
    have e2 : j = 4 := by omega
    subst e2
    have h0 : T (s + 0) = 109 := h 0 (by decide)
    have h1 : T (s + 1) = 101 := h 1 (by decide)
    have h2 : T (s + 2) = 108 := h 2 (by decide)
    have h3 : T (s + 3) = 100 := h 3 (by decide)
    simp only [rd_w]
    rw [h0, h1, h2, h3]
    decide
theorem rd_wk3 {T : Nat → Int} {s j : Nat} (j8 : j ≤ 8) (hb : ∀ i, i < j → 97 ≤ T (s + i) ∧ T (s + i) ≤ 122) : rd_w T s j = 1818588019 ↔ rd_is T s (s + j) (rd_nm 3) := by
  rw [rd_isT]
  constructor
  · intro h
    rcases (show j = 0 ∨ j = 1 ∨ j = 2 ∨ j = 3 ∨ j = 4 ∨ j = 5 ∨ j = 6 ∨ j = 7 ∨ j = 8 by omega) with rfl | rfl | rfl | rfl | rfl | rfl | rfl | rfl | rfl
    · exfalso
      simp only [rd_w] at h
      omega
    · exfalso
      have b0 := hb 0 (by decide)
      simp only [rd_w] at h
      omega
    · exfalso
      have b0 := hb 0 (by decide)
      have b1 := hb 1 (by decide)
      simp only [rd_w] at h
      omega
    · exfalso
      have b0 := hb 0 (by decide)
      have b1 := hb 1 (by decide)
      have b2 := hb 2 (by decide)
      simp only [rd_w] at h
      omega
    · refine ⟨rfl, fun i hi => ?_⟩
      have hi : i < 4 := hi
      have b0 := hb 0 (by decide)
      have b1 := hb 1 (by decide)
      have b2 := hb 2 (by decide)
      have b3 := hb 3 (by decide)
      simp only [rd_w] at h
      rcases (show i = 0 ∨ i = 1 ∨ i = 2 ∨ i = 3 by omega) with rfl | rfl | rfl | rfl
      · show T (s + 0) = 108
        omega
      · show T (s + 1) = 101
        omega
      · show T (s + 2) = 115
        omega
      · show T (s + 3) = 115
        omega
    · exfalso
      have b0 := hb 0 (by decide)
      have b1 := hb 1 (by decide)
      have b2 := hb 2 (by decide)
      have b3 := hb 3 (by decide)
      have b4 := hb 4 (by decide)
      simp only [rd_w] at h
      omega
    · exfalso
      have b0 := hb 0 (by decide)
      have b1 := hb 1 (by decide)
      have b2 := hb 2 (by decide)
      have b3 := hb 3 (by decide)
      have b4 := hb 4 (by decide)
      have b5 := hb 5 (by decide)
      simp only [rd_w] at h
      omega
    · exfalso
      have b0 := hb 0 (by decide)
      have b1 := hb 1 (by decide)
      have b2 := hb 2 (by decide)
      have b3 := hb 3 (by decide)
      have b4 := hb 4 (by decide)
      have b5 := hb 5 (by decide)
      have b6 := hb 6 (by decide)
      simp only [rd_w] at h
      omega
    · exfalso
      have b0 := hb 0 (by decide)
      have b1 := hb 1 (by decide)
      have b2 := hb 2 (by decide)
      have b3 := hb 3 (by decide)
      have b4 := hb 4 (by decide)
      have b5 := hb 5 (by decide)
      have b6 := hb 6 (by decide)
      have b7 := hb 7 (by decide)
      simp only [rd_w] at h
      omega
  · intro ⟨e, h⟩
    have e : s + j = s + 4 := e
    have e2 : j = 4 := by omega
    subst e2
    have h0 : T (s + 0) = 108 := h 0 (by decide)
    have h1 : T (s + 1) = 101 := h 1 (by decide)
    have h2 : T (s + 2) = 115 := h 2 (by decide)
    have h3 : T (s + 3) = 115 := h 3 (by decide)
    simp only [rd_w]
    rw [h0, h1, h2, h3]
    decide
theorem rd_wk4 {T : Nat → Int} {s j : Nat} (j8 : j ≤ 8) (hb : ∀ i, i < j → 97 ≤ T (s + i) ∧ T (s + i) ≤ 122) : rd_w T s j = 465726563698 ↔ rd_is T s (s + j) (rd_nm 4) := by
  rw [rd_isT]
  constructor
  · intro h
    rcases (show j = 0 ∨ j = 1 ∨ j = 2 ∨ j = 3 ∨ j = 4 ∨ j = 5 ∨ j = 6 ∨ j = 7 ∨ j = 8 by omega) with rfl | rfl | rfl | rfl | rfl | rfl | rfl | rfl | rfl
    · exfalso
      simp only [rd_w] at h
      omega
    · exfalso
      have b0 := hb 0 (by decide)
      simp only [rd_w] at h
      omega
    · exfalso
      have b0 := hb 0 (by decide)
      have b1 := hb 1 (by decide)
      simp only [rd_w] at h
      omega
    · exfalso
      have b0 := hb 0 (by decide)
      have b1 := hb 1 (by decide)
      have b2 := hb 2 (by decide)
      simp only [rd_w] at h
      omega
    · exfalso
      have b0 := hb 0 (by decide)
      have b1 := hb 1 (by decide)
      have b2 := hb 2 (by decide)
      have b3 := hb 3 (by decide)
      simp only [rd_w] at h
      omega
    · refine ⟨rfl, fun i hi => ?_⟩
      have hi : i < 5 := hi
      have b0 := hb 0 (by decide)
      have b1 := hb 1 (by decide)
      have b2 := hb 2 (by decide)
      have b3 := hb 3 (by decide)
      have b4 := hb 4 (by decide)
      simp only [rd_w] at h
      rcases (show i = 0 ∨ i = 1 ∨ i = 2 ∨ i = 3 ∨ i = 4 by omega) with rfl | rfl | rfl | rfl | rfl
      · show T (s + 0) = 108
        omega
      · show T (s + 1) = 111
        omega
      · show T (s + 2) = 119
        omega
      · show T (s + 3) = 101
        omega
      · show T (s + 4) = 114
        omega
    · exfalso
      have b0 := hb 0 (by decide)
      have b1 := hb 1 (by decide)
      have b2 := hb 2 (by decide)
      have b3 := hb 3 (by decide)
      have b4 := hb 4 (by decide)
      have b5 := hb 5 (by decide)
      simp only [rd_w] at h
      omega
    · exfalso
      have b0 := hb 0 (by decide)
      have b1 := hb 1 (by decide)
      have b2 := hb 2 (by decide)
      have b3 := hb 3 (by decide)
      have b4 := hb 4 (by decide)
      have b5 := hb 5 (by decide)
      have b6 := hb 6 (by decide)
      simp only [rd_w] at h
      omega
    · exfalso
      have b0 := hb 0 (by decide)
      have b1 := hb 1 (by decide)
      have b2 := hb 2 (by decide)
      have b3 := hb 3 (by decide)
      have b4 := hb 4 (by decide)
      have b5 := hb 5 (by decide)
      have b6 := hb 6 (by decide)
      have b7 := hb 7 (by decide)
      simp only [rd_w] at h
      omega
  · intro ⟨e, h⟩
    have e : s + j = s + 5 := e
    have e2 : j = 5 := by omega
    subst e2
    have h0 : T (s + 0) = 108 := h 0 (by decide)
    have h1 : T (s + 1) = 111 := h 1 (by decide)
    have h2 : T (s + 2) = 119 := h 2 (by decide)
    have h3 : T (s + 3) = 101 := h 3 (by decide)
    have h4 : T (s + 4) = 114 := h 4 (by decide)
    simp only [rd_w]
    rw [h0, h1, h2, h3, h4]
    decide
theorem rd_wk5 {T : Nat → Int} {s j : Nat} (j8 : j ≤ 8) (hb : ∀ i, i < j → 97 ≤ T (s + i) ∧ T (s + i) ≤ 122) : rd_w T s j = 6518132 ↔ rd_is T s (s + j) (rd_nm 5) := by
  rw [rd_isT]
  constructor
  · intro h
    rcases (show j = 0 ∨ j = 1 ∨ j = 2 ∨ j = 3 ∨ j = 4 ∨ j = 5 ∨ j = 6 ∨ j = 7 ∨ j = 8 by omega) with rfl | rfl | rfl | rfl | rfl | rfl | rfl | rfl | rfl
    · exfalso
      simp only [rd_w] at h
      omega
    · exfalso
      have b0 := hb 0 (by decide)
      simp only [rd_w] at h
      omega
    · exfalso
      have b0 := hb 0 (by decide)
      have b1 := hb 1 (by decide)
      simp only [rd_w] at h
      omega
    · refine ⟨rfl, fun i hi => ?_⟩
      have hi : i < 3 := hi
      have b0 := hb 0 (by decide)
      have b1 := hb 1 (by decide)
      have b2 := hb 2 (by decide)
      simp only [rd_w] at h
      rcases (show i = 0 ∨ i = 1 ∨ i = 2 by omega) with rfl | rfl | rfl
      · show T (s + 0) = 99
        omega
      · show T (s + 1) = 117
        omega
      · show T (s + 2) = 116
        omega
    · exfalso
      have b0 := hb 0 (by decide)
      have b1 := hb 1 (by decide)
      have b2 := hb 2 (by decide)
      have b3 := hb 3 (by decide)
      simp only [rd_w] at h
      omega
    · exfalso
      have b0 := hb 0 (by decide)
      have b1 := hb 1 (by decide)
      have b2 := hb 2 (by decide)
      have b3 := hb 3 (by decide)
      have b4 := hb 4 (by decide)
      simp only [rd_w] at h
      omega
    · exfalso
      have b0 := hb 0 (by decide)
      have b1 := hb 1 (by decide)
      have b2 := hb 2 (by decide)
      have b3 := hb 3 (by decide)
      have b4 := hb 4 (by decide)
      have b5 := hb 5 (by decide)
      simp only [rd_w] at h
      omega
    · exfalso
      have b0 := hb 0 (by decide)
      have b1 := hb 1 (by decide)
      have b2 := hb 2 (by decide)
      have b3 := hb 3 (by decide)
      have b4 := hb 4 (by decide)
      have b5 := hb 5 (by decide)
      have b6 := hb 6 (by decide)
      simp only [rd_w] at h
      omega
    · exfalso
      have b0 := hb 0 (by decide)
      have b1 := hb 1 (by decide)
      have b2 := hb 2 (by decide)
      have b3 := hb 3 (by decide)
      have b4 := hb 4 (by decide)
      have b5 := hb 5 (by decide)
      have b6 := hb 6 (by decide)
      have b7 := hb 7 (by decide)
      simp only [rd_w] at h
      omega
  · intro ⟨e, h⟩
    have e : s + j = s + 3 := e
    have e2 : j = 3 := by omega
    subst e2
    have h0 : T (s + 0) = 99 := h 0 (by decide)
    have h1 : T (s + 1) = 117 := h 1 (by decide)
    have h2 : T (s + 2) = 116 := h 2 (by decide)
    simp only [rd_w]
    rw [h0, h1, h2]
    decide
theorem rd_wk {T : Nat → Int} {s j k : Nat} (hk : k < 6) (j8 : j ≤ 8) (hb : ∀ i, i < j → 97 ≤ T (s + i) ∧ T (s + i) ≤ 122) : rd_w T s j = rd_W k ↔ rd_is T s (s + j) (rd_nm k) := by
  rcases (show k = 0 ∨ k = 1 ∨ k = 2 ∨ k = 3 ∨ k = 4 ∨ k = 5 by omega) with rfl | rfl | rfl | rfl | rfl | rfl
  · exact rd_wk0 j8 hb
  · exact rd_wk1 j8 hb
  · exact rd_wk2 j8 hb
  · exact rd_wk3 j8 hb
  · exact rd_wk4 j8 hb
  · exact rd_wk5 j8 hb
theorem rd_nmL {k : Nat} (hk : k < 6) : 3 ≤ (rd_nm k).length ∧ (rd_nm k).length ≤ 5 := by
  rcases (show k = 0 ∨ k = 1 ∨ k = 2 ∨ k = 3 ∨ k = 4 ∨ k = 5 by omega) with rfl | rfl | rfl | rfl | rfl | rfl <;> decide
theorem rd_WB {k : Nat} : rd_W k < 2 ^ 40 := by
  unfold rd_W
  split <;> decide
theorem rd_W0 {k : Nat} (hk : k < 6) : rd_W k ≠ 0 := by
  rcases (show k = 0 ∨ k = 1 ∨ k = 2 ∨ k = 3 ∨ k = 4 ∨ k = 5 by omega) with rfl | rfl | rfl | rfl | rfl | rfl <;> decide
theorem l_ofN {a b : Nat} (ha : a < 2 ^ 64) (hb : b < 2 ^ 64) : Int64.ofNat a = Int64.ofNat b ↔ a = b := by
  refine ⟨fun e => ?_, fun e => by rw [e]⟩
  have h1 : (Int64.ofNat a).toBitVec.toNat = (Int64.ofNat b).toBitVec.toNat := by rw [e]
  have h2 : (BitVec.ofNat 64 a).toNat = (BitVec.ofNat 64 b).toNat := h1
  rw [BitVec.toNat_ofNat, BitVec.toNat_ofNat, Nat.mod_eq_of_lt ha, Nat.mod_eq_of_lt hb] at h2
  exact h2
-- a letter more
theorem l_e8 : ((Int32.ofInt 8).toInt64 &&& 63) = (8 : Int64) := by decide
theorem l_step {a : Nat} {y : Int} (ha : a < 2 ^ 56) (y0 : 0 ≤ y) (y1 : y < 256) : (Int64.ofNat a <<< ((Int32.ofInt 8).toInt64 &&& 63)) ||| (Int32.ofInt y).toInt64 = Int64.ofNat (256 * a + y.toNat) := by
  rw [l_e8]
  have e2 : (Int32.ofInt y).toInt64.toBitVec.toNat = y.toNat := by
    have h1 : (Int32.ofInt y).toInt64.toInt = y := by
      rw [Int32.toInt_toInt64, Int32.toInt_ofInt]
      exact Int.bmod_eq_of_le (by show -((2 ^ 32 : Int) / 2) ≤ y; omega) (by show y < ((2 ^ 32 : Int) + 1) / 2; omega)
    have h2 : (Int32.ofInt y).toInt64.toInt = (Int32.ofInt y).toInt64.toBitVec.toInt := rfl
    have h4 := BitVec.toInt_eq_toNat_cond (Int32.ofInt y).toInt64.toBitVec
    have h5 := (Int32.ofInt y).toInt64.toBitVec.isLt
    split at h4 <;> omega
  apply Int64.toBitVec_inj.mp
  apply BitVec.eq_of_toNat_eq
  have e3 : ((Int64.ofNat a <<< (8 : Int64)) ||| (Int32.ofInt y).toInt64).toBitVec = (BitVec.ofNat 64 a <<< 8) ||| (Int32.ofInt y).toInt64.toBitVec := rfl
  rw [e3, BitVec.toNat_or, BitVec.toNat_shiftLeft, e2]
  show ((BitVec.ofNat 64 a).toNat <<< 8 % 2 ^ 64) ||| y.toNat = (BitVec.ofNat 64 (256 * a + y.toNat)).toNat
  rw [BitVec.toNat_ofNat, BitVec.toNat_ofNat, Nat.mod_eq_of_lt (show a < 2 ^ 64 by omega), Nat.shiftLeft_eq, Nat.mod_eq_of_lt (show a * 2 ^ 8 < 2 ^ 64 by omega), Nat.mod_eq_of_lt (show 256 * a + y.toNat < 2 ^ 64 by omega), ← Nat.shiftLeft_eq, ← Nat.shiftLeft_add_eq_or_of_lt (show y.toNat < 2 ^ 8 by omega), Nat.shiftLeft_eq]
  omega
theorem t_Wn9 {W : List (Nat × Nat)} {R : Nat} (e : W.all (fun q => !(Nat.beq q.1 R)) = true) (j : Nat) : ¬ t_W W R j := fun z => by
  rcases z with z | z
  all_goals
    have z1 : (!(Nat.beq R R)) = true := List.all_eq_true.mp e _ z
    rw [Nat.beq_refl] at z1
    cases z1
theorem i_255 (x : Int32) : (x &&& 255).toInt = x.toInt % 256 := by
  have h1 : (x &&& 255).toBitVec.toNat = x.toBitVec.toNat % 256 := by
    show (x.toBitVec &&& (255 : Int32).toBitVec).toNat = _
    rw [BitVec.toNat_and]
    exact Nat.and_two_pow_sub_one_eq_mod x.toBitVec.toNat 8
  have e1 : (x &&& 255).toInt = (x &&& 255).toBitVec.toInt := rfl
  have e2 : x.toInt = x.toBitVec.toInt := rfl
  have h4 := BitVec.toInt_eq_toNat_cond (x &&& 255).toBitVec
  have h5 := BitVec.toInt_eq_toNat_cond x.toBitVec
  have h6 := x.toBitVec.isLt
  rw [h1] at h4
  split at h4 <;> split at h5 <;> omega
section
variable {i pc pc' : Nat} {lv : List (Nat × Value)} {st : List Value} {h : MH} {Q : Option Value → MH → Prop}
theorem hM_iand255 {x y : Int32} {zx : Int} (a : m_at i pc = some (.iand, 1)) (hx : x.toInt = zx) (hy : y.toInt = 255) (hp : pc + 1 = pc') (g : ∀ w : Int32, w.toInt = zx % 256 → HJ i pc' lv (.int w :: st) h Q) : HJ i pc lv (.int y :: .int x :: st) h Q := by
  have : y = 255 := Int32.toInt_inj.mp (by rw [hy]; rfl)
  subst this
  exact hI_iand a hp (g _ (by rw [i_255, hx]))
end
