-- LINEAR WORDS: a sum of symbols with whole coefficients and a constant; ranges of symbols; constraints 'a word is 0 at most'; what follows from them
abbrev LE : Type := List (Nat × Int) × Int
abbrev IV : Type := List (Nat × (Int × Int))
def l_ev (σ : Nat → Int) : List (Nat × Int) → Int
  | [] => 0
  | (k, a) :: r => a * σ k + l_ev σ r
def le_ev (σ : Nat → Int) (e : LE) : Int := l_ev σ e.1 + e.2
-- into a row of symbols, like ones together, none with coefficient 0
def l_in (k : Nat) (a : Int) : List (Nat × Int) → List (Nat × Int)
  | [] => if a = 0 then [] else [(k, a)]
  | (j, b) :: r => if j = k then (if b + a = 0 then r else (k, b + a) :: r) else (j, b) :: l_in k a r
theorem l_inE (σ : Nat → Int) (k : Nat) (a : Int) : ∀ l : List (Nat × Int), l_ev σ (l_in k a l) = a * σ k + l_ev σ l
  | [] => by
    rw [l_in]
    split
    · next h => rw [h, Int.zero_mul, Int.zero_add]
    · rfl
  | (j, b) :: r => by
    rw [l_in]
    split
    · next h =>
      subst h
      split
      · next h0 =>
        have : (b + a) * σ j = 0 := by rw [h0, Int.zero_mul]
        rw [Int.add_mul] at this
        rw [l_ev]
        omega
      · rw [l_ev, l_ev, Int.add_mul]
        omega
    · rw [l_ev, l_ev, l_inE σ k a r]
      omega
def l_add (c : Int) : List (Nat × Int) → List (Nat × Int) → List (Nat × Int)
  | [], l => l
  | (k, a) :: r, l => l_in k (c * a) (l_add c r l)
theorem l_addE (σ : Nat → Int) (c : Int) : ∀ r l : List (Nat × Int), l_ev σ (l_add c r l) = c * l_ev σ r + l_ev σ l
  | [], l => by rw [l_add, l_ev, Int.mul_zero, Int.zero_add]
  | (k, a) :: r, l => by
    rw [l_add, l_inE, l_addE σ c r l, l_ev, Int.mul_add, Int.mul_assoc]
    omega
def le_c (z : Int) : LE := ([], z)
def le_s (k : Nat) : LE := ([(k, 1)], 0)
def le_add (x y : LE) : LE := (l_add 1 y.1 x.1, x.2 + y.2)
def le_sub (x y : LE) : LE := (l_add (-1) y.1 x.1, x.2 - y.2)
def le_mul (c : Int) (x : LE) : LE := (l_add c x.1 [], c * x.2)
theorem le_cE (σ : Nat → Int) (z : Int) : le_ev σ (le_c z) = z := Int.zero_add z
theorem le_sE (σ : Nat → Int) (k : Nat) : le_ev σ (le_s k) = σ k := by
  show (1 * σ k + 0) + 0 = σ k
  omega
theorem le_addE (σ : Nat → Int) (x y : LE) : le_ev σ (le_add x y) = le_ev σ x + le_ev σ y := by
  unfold le_ev le_add
  rw [l_addE]
  omega
theorem le_subE (σ : Nat → Int) (x y : LE) : le_ev σ (le_sub x y) = le_ev σ x - le_ev σ y := by
  unfold le_ev le_sub
  rw [l_addE]
  omega
theorem le_mulE (σ : Nat → Int) (c : Int) (x : LE) : le_ev σ (le_mul c x) = c * le_ev σ x := by
  unfold le_ev le_mul
  rw [l_addE, Int.mul_add]
  show c * l_ev σ x.1 + 0 + c * x.2 = _
  omega
-- ranges
def iv_ok (σ : Nat → Int) (iv : IV) : Prop := ∀ q ∈ iv, q.2.1 ≤ σ q.1 ∧ σ q.1 ≤ q.2.2
theorem iv_lk {σ : Nat → Int} {iv : IV} (h : iv_ok σ iv) {k : Nat} {p : Int × Int} (e : m_lk iv k = some p) : p.1 ≤ σ k ∧ σ k ≤ p.2 := h _ (m_lkm e)
def l_ub (iv : IV) : List (Nat × Int) → Option Int
  | [] => some 0
  | (k, a) :: r => match m_lk iv k, l_ub iv r with
    | some p, some u => some ((if 0 ≤ a then a * p.2 else a * p.1) + u)
    | _, _ => none
theorem l_ubS {σ : Nat → Int} {iv : IV} (h : iv_ok σ iv) : ∀ (l : List (Nat × Int)) (u : Int), l_ub iv l = some u → l_ev σ l ≤ u
  | [], u, e => by
    cases e
    exact Int.le_refl _
  | (k, a) :: r, u, e => by
    rw [l_ub] at e
    split at e
    · next p u1 hp hu =>
      cases e
      have h1 := iv_lk h hp
      have h2 := l_ubS h r u1 hu
      rw [l_ev]
      split
      · next ha =>
        have := Int.mul_le_mul_of_nonneg_left h1.2 ha
        omega
      · next ha =>
        have := Int.mul_le_mul_of_nonpos_left (show a ≤ 0 by omega) h1.1
        omega
    · cases e
def le_le0 (iv : IV) (e : LE) : Bool := match l_ub iv e.1 with
  | some u => decide (u + e.2 ≤ 0)
  | none => false
theorem le_le0S {σ : Nat → Int} {iv : IV} (h : iv_ok σ iv) {e : LE} (k : le_le0 iv e = true) : le_ev σ e ≤ 0 := by
  unfold le_le0 at k
  split at k
  · next u hu =>
    have h1 := of_decide_eq_true k
    have h2 := l_ubS h e.1 u hu
    unfold le_ev
    omega
  · cases k
-- what follows: by ranges, by one constraint, by two
def cs_ok (σ : Nat → Int) (cs : List LE) : Prop := ∀ e ∈ cs, le_ev σ e ≤ 0
-- how often a constraint is taken: so that its first symbol goes
def l_cf (k : Nat) : List (Nat × Int) → Int
  | [] => 0
  | (j, b) :: r => if j = k then b else l_cf k r
def l_mt (e c : LE) : Int := match c.1 with
  | [] => 1
  | (k, b) :: _ => if 0 < l_cf k e.1 / b then l_cf k e.1 / b else 1
def le_ent2 (iv : IV) (cs : List LE) (e : LE) : Bool := cs.any (fun d => le_le0 iv (le_sub e d) || (!decide (l_mt e d = 1) && le_le0 iv (le_sub e (le_mul (l_mt e d) d))))
def le_ent (iv : IV) (cs : List LE) (e : LE) : Bool := le_le0 iv e || (le_ent2 iv cs e || cs.any (fun c => le_ent2 iv cs (le_sub e c) || (!decide (l_mt e c = 1) && le_ent2 iv cs (le_sub e (le_mul (l_mt e c) c)))))
theorem l_mtP (e c : LE) : 0 ≤ l_mt e c := by
  unfold l_mt
  split
  · decide
  · split <;> omega
theorem le_scale {σ : Nat → Int} {e c : LE} {m : Int} (hm : 0 ≤ m) (hc : le_ev σ c ≤ 0) (k : le_ev σ (le_sub e (le_mul m c)) ≤ 0) : le_ev σ e ≤ 0 := by
  rw [le_subE, le_mulE] at k
  have := Int.mul_nonpos_of_nonneg_of_nonpos hm hc
  omega
theorem le_ent2S {σ : Nat → Int} {iv : IV} {cs : List LE} (h : iv_ok σ iv) (hc : cs_ok σ cs) {e : LE} (k : le_ent2 iv cs e = true) : le_ev σ e ≤ 0 := by
  obtain ⟨d, m1, k1⟩ := List.any_eq_true.mp k
  have h1 := hc d m1
  rw [Bool.or_eq_true, Bool.and_eq_true] at k1
  rcases k1 with k1 | ⟨-, k1⟩
  · have h2 := le_le0S h k1
    rw [le_subE] at h2
    omega
  · exact le_scale (l_mtP e d) h1 (le_le0S h k1)
theorem le_entS {σ : Nat → Int} {iv : IV} {cs : List LE} (h : iv_ok σ iv) (hc : cs_ok σ cs) {e : LE} (k : le_ent iv cs e = true) : le_ev σ e ≤ 0 := by
  unfold le_ent at k
  rw [Bool.or_eq_true, Bool.or_eq_true] at k
  rcases k with k | k | k
  · exact le_le0S h k
  · exact le_ent2S h hc k
  · obtain ⟨c, m1, k1⟩ := List.any_eq_true.mp k
    have h1 := hc c m1
    rw [Bool.or_eq_true, Bool.and_eq_true] at k1
    rcases k1 with k1 | ⟨-, k1⟩
    · have h2 := le_ent2S h hc k1
      rw [le_subE] at h2
      omega
    · exact le_scale (l_mtP e c) h1 (le_ent2S h hc k1)
-- a symbol that a word doesn't have
def l_fr (n : Nat) (l : List (Nat × Int)) : Bool := l.all (fun q => !(q.1 == n))
def s_up (σ : Nat → Int) (n : Nat) (z : Int) : Nat → Int := fun k => if k = n then z else σ k
theorem l_frS (σ : Nat → Int) (n : Nat) (z : Int) : ∀ l : List (Nat × Int), l_fr n l = true → l_ev (s_up σ n z) l = l_ev σ l
  | [], _ => rfl
  | (k, a) :: r, h => by
    unfold l_fr at h
    rw [List.all_cons, Bool.and_eq_true] at h
    rw [l_ev, l_ev, l_frS σ n z r h.2]
    have hk : ¬ k = n := fun e => by
      rw [e] at h
      simp at h
    unfold s_up
    rw [if_neg hk]
theorem le_frS (σ : Nat → Int) (n : Nat) (z : Int) (e : LE) (h : l_fr n e.1 = true) : le_ev (s_up σ n z) e = le_ev σ e := by
  unfold le_ev
  rw [l_frS σ n z e.1 h]
