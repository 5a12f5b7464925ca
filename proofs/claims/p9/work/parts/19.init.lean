-- the law's own beginning, within its ranges
theorem g_i00 : g_i (0, 0) 0 := ⟨by decide, by decide⟩
theorem g_j00 : g_j (0, 0) 0 := ⟨by decide, by decide⟩
theorem g_row : ∀ (l : List Int32) (k j : Nat), g_i (match m_lk (b_row k l) (k + j) with
    | some v => v
    | none => (0, 0)) (l.getD j 0)
  | [], k, j => g_i00
  | x :: r, k, 0 => by
    rw [b_row, m_lkc, if_pos (by rfl)]
    exact g_iE x
  | x :: r, k, j + 1 => by
    rw [b_row, m_lkc, if_neg (by dsimp only; omega), show k + (j + 1) = k + 1 + j by omega]
    exact g_row r (k + 1) j
theorem g_xr (xs : Nat → Int32) : ∀ (xi : List AI) (k : Nat), (∀ j, j < xi.length → g_i (xi.getD j b_t) (xs (k + j))) → ∀ j, g_i (match m_lk (b_xr k xi) (k + j) with
    | some v => v
    | none => b_t) (xs (k + j))
  | [], k, _, j => g_iT _
  | p :: r, k, h, 0 => by
    rw [b_xr, m_lkc, if_pos (by rfl)]
    exact h 0 (Nat.succ_pos _)
  | p :: r, k, h, j + 1 => by
    rw [b_xr, m_lkc, if_neg (by dsimp only; omega), show k + (j + 1) = k + 1 + j by omega]
    refine g_xr xs r (k + 1) (fun j hj => ?_) j
    have := h (j + 1) (Nat.succ_lt_succ hj)
    rw [show k + (j + 1) = k + 1 + j by omega] at this
    exact this
theorem g_c0 (L : Nat) (xs : Nat → Int32) (a k len : Nat) (l : List Int32) (hk : m_kd0 L a = (k, len)) (hi : ∀ j, m_hi0 xs a j = l.getD j 0) (hr : ∀ j, m_hr0 a j = 0) : g_c (b_c0 k len l) (m_h0 L xs) a := by
  refine ⟨hk, fun j => ?_, fun j => g_j00, fun j => hr j⟩
  show g_i (b_rw ((0, 0), b_row 0 l) j) (m_hi0 xs a j)
  rw [hi]
  have := g_row l 0 j
  rw [Nat.zero_add] at this
  exact this
theorem g_cs (L : Nat) (xs : Nat → Int32) (a : Nat) (h1 : 2 ≤ a) (h2 : a < 8) : g_c (b_cs (a + 6)) (m_h0 L xs) a := by
  refine ⟨?_, fun j => ?_, fun j => g_j00, fun j => ?_⟩
  · show m_kd0 L a = (40, 0)
    unfold m_kd0
    rw [if_neg (by omega), if_pos ⟨h1, h2⟩]
  · show g_i (0, 0) (m_hi0 xs a j)
    unfold m_hi0
    rw [if_neg (by omega), if_neg (by omega), if_neg (by omega)]
    exact ⟨by decide, by decide⟩
  · show m_hr0 a j = _
    unfold m_hr0 b_gr b_cs
    dsimp only
    rw [m_lkc]
    by_cases hj : 0 = j
    · rw [if_pos hj, if_pos ⟨h1, h2, hj.symm⟩]
    · rw [if_neg hj, if_neg (fun z => hj z.2.2.symm)]
      rfl
theorem m_lkm {α : Type} {a : Nat} {c : α} : ∀ {l : List (Nat × α)}, m_lk l a = some c → (a, c) ∈ l
  | [], h => by cases h
  | q :: r, h => by
    rw [m_lkc] at h
    by_cases hq : q.1 = a
    · rw [if_pos hq] at h
      cases h
      rw [← hq]
      exact List.mem_cons_self
    · rw [if_neg hq] at h
      exact List.mem_cons_of_mem _ (m_lkm h)
theorem g_h0 (s : AI) (L : Nat) (xs : Nat → Int32) (xi : List AI) (hx : ∀ j, j < xi.length → g_i (xi.getD j b_t) (xs j)) (h0 : g_i s (xs 0 &&& 63)) : g_h s (b_h0 L xi) (m_h0 L xs) := by
  refine ⟨rfl, rfl, fun a c hc => ?_, h0, rfl⟩
  have hm := m_lkm (show m_lk (b_h0 L xi).2 a = some c from hc)
  unfold b_h0 at hm
  simp only [List.mem_cons, Prod.mk.injEq, List.not_mem_nil, or_false] at hm
  rcases hm with ⟨rfl, rfl⟩ | ⟨rfl, rfl⟩ | ⟨rfl, rfl⟩ | ⟨rfl, rfl⟩ | ⟨rfl, rfl⟩ | ⟨rfl, rfl⟩ | ⟨rfl, rfl⟩ | ⟨rfl, rfl⟩ | ⟨rfl, rfl⟩ | ⟨rfl, rfl⟩ | ⟨rfl, rfl⟩ | ⟨rfl, rfl⟩ | ⟨rfl, rfl⟩ | ⟨rfl, rfl⟩
  · exact g_c0 L xs 1 20 18 m_lim rfl (fun j => rfl) (fun j => rfl)
  · refine ⟨rfl, fun j => ?_, fun j => g_j00, fun j => rfl⟩
    have := g_xr xs xi 0 (fun j hj => by rw [Nat.zero_add]; exact hx j hj) j
    rw [Nat.zero_add] at this
    exact this
  · exact g_cs L xs 2 (by decide) (by decide)
  · exact g_cs L xs 3 (by decide) (by decide)
  · exact g_cs L xs 4 (by decide) (by decide)
  · exact g_cs L xs 5 (by decide) (by decide)
  · exact g_cs L xs 6 (by decide) (by decide)
  · exact g_cs L xs 7 (by decide) (by decide)
  · exact g_c0 L xs 8 21 3 _ rfl (fun j => rfl) (fun j => rfl)
  · exact g_c0 L xs 9 21 3 _ rfl (fun j => rfl) (fun j => rfl)
  · exact g_c0 L xs 10 21 4 _ rfl (fun j => rfl) (fun j => rfl)
  · exact g_c0 L xs 11 21 4 _ rfl (fun j => rfl) (fun j => rfl)
  · exact g_c0 L xs 12 21 5 _ rfl (fun j => rfl) (fun j => rfl)
  · exact g_c0 L xs 13 21 3 _ rfl (fun j => rfl) (fun j => rfl)
def b_goal (L : Nat) (xs : Nat → Int32) : Prop := ∃ (n : Nat) (h' : MH), m_rn n 0 0 [(0, .ref 14)] [] (m_h0 L xs) = some (some (.int 1), h') ∧ h_n h' ≤ 600000 ∧ h_z h' ≤ 7302250
theorem b_okS (s : AI) (fuel L : Nat) (xi : List AI) (e : b_ok s fuel L xi = true) (xs : Nat → Int32) (hx : ∀ j, j < xi.length → g_i (xi.getD j b_t) (xs j)) (h0 : g_i s (xs 0 &&& 63)) : b_goal L xs := by
  unfold b_ok at e
  split at e
  · next v A hA =>
    rw [Bool.and_eq_true, Bool.and_eq_true] at e
    have e1 := of_decide_eq_true e.1
    have e2 := of_decide_eq_true e.2.1
    have e3 := of_decide_eq_true e.2.2
    obtain ⟨v', h', k1, k2, k3⟩ := c_sim s fuel 0 0 _ [] _ _ _ hA [(0, .ref 14)] [] (m_h0 L xs) ⟨⟨rfl, rfl⟩, trivial⟩ trivial (g_h0 s L xs xi hx h0)
    cases v' with
    | none => exact k2.elim
    | some w =>
      obtain ⟨x, hw, hx1, hx2⟩ := k2
      rw [e1] at hx1 hx2
      have hx3 : x = 1 := Int32.toInt_inj.mp (show x.toInt = (1 : Int32).toInt by
        have : (1 : Int32).toInt = 1 := by decide
        have h1 : (1 : Int) ≤ x.toInt := hx1
        have h2 : x.toInt ≤ (1 : Int) := hx2
        omega)
      rw [hw, hx3] at k1
      exact ⟨fuel, h', k1, by rw [k3.1]; exact e2, by rw [k3.2.1]; exact e3⟩
  · cases e
theorem g_63 (x : Int32) : g_i (0, 63) (x &&& 63) := by
  have h : (x &&& 63).toBitVec.toNat ≤ 63 := by
    rw [Int32.toBitVec_and, BitVec.toNat_and]
    exact Nat.and_le_right
  have h2 : (x &&& 63).toInt = ((x &&& 63).toBitVec.toNat : Int) := BitVec.toInt_eq_toNat_of_lt (by omega)
  exact ⟨by rw [h2]; show (0 : Int) ≤ _; omega, by rw [h2]; show _ ≤ (63 : Int); omega⟩
def b_cov (l : List AI) : Prop := ∀ x : Int32, ∃ p ∈ l, g_i p x
def b_mk (p : AI) (k : Nat) (q : AI) : List AI := match k with
  | 2 => [b_t, p, q]
  | 3 => [b_t, p, b_t, q]
  | 4 => [b_t, p, b_t, b_t, q]
  | 6 => [b_t, p, b_t, b_t, b_t, b_t, q]
  | _ => [b_t, p]
theorem b_mkS (xs : Nat → Int32) (p : AI) (k : Nat) (q : AI) (hp : g_i p (xs 1)) (hq : g_i q (xs k)) : ∀ j, j < (b_mk p k q).length → g_i ((b_mk p k q).getD j b_t) (xs j) := by
  unfold b_mk
  split
  · exact fun j hj => match j, hj with
      | 0, _ => g_iT _
      | 1, _ => hp
      | 2, _ => hq
  · exact fun j hj => match j, hj with
      | 0, _ => g_iT _
      | 1, _ => hp
      | 2, _ => g_iT _
      | 3, _ => hq
  · exact fun j hj => match j, hj with
      | 0, _ => g_iT _
      | 1, _ => hp
      | 2, _ => g_iT _
      | 3, _ => g_iT _
      | 4, _ => hq
  · exact fun j hj => match j, hj with
      | 0, _ => g_iT _
      | 1, _ => hp
      | 2, _ => g_iT _
      | 3, _ => g_iT _
      | 4, _ => g_iT _
      | 5, _ => g_iT _
      | 6, _ => hq
  · exact fun j hj => match j, hj with
      | 0, _ => g_iT _
      | 1, _ => hp
def b_l1 : List AI := [(-2147483648, -1), (0, 2147483647)]
def b_l2 : List AI := [(-2147483648, -1), (0, 0), (1, 2147483647)]
def b_l3 : List AI := [(-2147483648, -2), (-1, -1), (0, 2147483647)]
def b_l4 : List AI := [(-2147483648, -1), (0, 0), (1, 1), (2, 2147483647)]
def b_l5 : List AI := [(-2147483648, -1), (0, 0), (1, 1), (2, 2), (3, 2147483647)]
theorem b_v0 : b_cov [b_t] := fun x => ⟨b_t, List.mem_cons_self, g_iT x⟩
theorem b_v1 : b_cov b_l1 := fun x => by
  obtain ⟨h1, h2⟩ := g_iT x
  have h1 : (-2147483648 : Int) ≤ x.toInt := h1
  have h2 : x.toInt ≤ (2147483647 : Int) := h2
  by_cases c : x.toInt ≤ -1
  · exact ⟨_, List.mem_cons_self, h1, c⟩
  · exact ⟨_, List.mem_cons_of_mem _ List.mem_cons_self, show (0 : Int) ≤ _ by omega, h2⟩
theorem b_v2 : b_cov b_l2 := fun x => by
  obtain ⟨h1, h2⟩ := g_iT x
  have h1 : (-2147483648 : Int) ≤ x.toInt := h1
  have h2 : x.toInt ≤ (2147483647 : Int) := h2
  by_cases c : x.toInt ≤ -1
  · exact ⟨_, List.mem_cons_self, h1, c⟩
  · by_cases d : x.toInt ≤ 0
    · exact ⟨_, List.mem_cons_of_mem _ List.mem_cons_self, show (0 : Int) ≤ _ by omega, d⟩
    · exact ⟨_, List.mem_cons_of_mem _ (List.mem_cons_of_mem _ List.mem_cons_self), show (1 : Int) ≤ _ by omega, h2⟩
theorem b_v3 : b_cov b_l3 := fun x => by
  obtain ⟨h1, h2⟩ := g_iT x
  have h1 : (-2147483648 : Int) ≤ x.toInt := h1
  have h2 : x.toInt ≤ (2147483647 : Int) := h2
  by_cases c : x.toInt ≤ -2
  · exact ⟨_, List.mem_cons_self, h1, c⟩
  · by_cases d : x.toInt ≤ -1
    · exact ⟨_, List.mem_cons_of_mem _ List.mem_cons_self, show (-1 : Int) ≤ _ by omega, d⟩
    · exact ⟨_, List.mem_cons_of_mem _ (List.mem_cons_of_mem _ List.mem_cons_self), show (0 : Int) ≤ _ by omega, h2⟩
theorem b_v4 : b_cov b_l4 := fun x => by
  obtain ⟨h1, h2⟩ := g_iT x
  have h1 : (-2147483648 : Int) ≤ x.toInt := h1
  have h2 : x.toInt ≤ (2147483647 : Int) := h2
  by_cases c : x.toInt ≤ -1
  · exact ⟨_, List.mem_cons_self, h1, c⟩
  · by_cases d : x.toInt ≤ 0
    · exact ⟨_, List.mem_cons_of_mem _ List.mem_cons_self, show (0 : Int) ≤ _ by omega, d⟩
    · by_cases d2 : x.toInt ≤ 1
      · exact ⟨_, List.mem_cons_of_mem _ (List.mem_cons_of_mem _ List.mem_cons_self), show (1 : Int) ≤ _ by omega, d2⟩
      · exact ⟨_, List.mem_cons_of_mem _ (List.mem_cons_of_mem _ (List.mem_cons_of_mem _ List.mem_cons_self)), show (2 : Int) ≤ _ by omega, h2⟩
theorem b_v5 : b_cov b_l5 := fun x => by
  obtain ⟨h1, h2⟩ := g_iT x
  have h1 : (-2147483648 : Int) ≤ x.toInt := h1
  have h2 : x.toInt ≤ (2147483647 : Int) := h2
  by_cases c : x.toInt ≤ -1
  · exact ⟨_, List.mem_cons_self, h1, c⟩
  · by_cases d : x.toInt ≤ 0
    · exact ⟨_, List.mem_cons_of_mem _ List.mem_cons_self, show (0 : Int) ≤ _ by omega, d⟩
    · by_cases d2 : x.toInt ≤ 1
      · exact ⟨_, List.mem_cons_of_mem _ (List.mem_cons_of_mem _ List.mem_cons_self), show (1 : Int) ≤ _ by omega, d2⟩
      · by_cases d3 : x.toInt ≤ 2
        · exact ⟨_, List.mem_cons_of_mem _ (List.mem_cons_of_mem _ (List.mem_cons_of_mem _ List.mem_cons_self)), show (2 : Int) ≤ _ by omega, d3⟩
        · exact ⟨_, List.mem_cons_of_mem _ (List.mem_cons_of_mem _ (List.mem_cons_of_mem _ (List.mem_cons_of_mem _ List.mem_cons_self))), show (3 : Int) ≤ _ by omega, h2⟩
noncomputable def b_two (s : AI) (fuel k : Nat) (l1 l2 : List AI) : Bool := l1.all (fun p => l2.all (fun q => b_ok s fuel 7 (b_mk p k q)))
theorem b_twoS {s : AI} {fuel k : Nat} {l1 l2 : List AI} (e : b_two s fuel k l1 l2 = true) (h1 : b_cov l1) (h2 : b_cov l2) (xs : Nat → Int32) (h0 : g_i s (xs 0 &&& 63)) : b_goal 7 xs := by
  obtain ⟨p, hp, gp⟩ := h1 (xs 1)
  obtain ⟨q, hq, gq⟩ := h2 (xs k)
  unfold b_two at e
  have e1 := List.all_eq_true.mp e p hp
  have e2 := List.all_eq_true.mp e1 q hq
  exact b_okS s fuel 7 _ e2 xs (b_mkS xs p k q gp gq) h0
