-- the checker's steps that leave the heap alone
def jx_add (pc : Nat) (S : AST) (st : List AT) : Option (List AO) := match st with
  | .inl y :: .inl x :: r => t_pw (pc + 1) S r (le_add x y)
  | _ => none
def jx_sub (pc : Nat) (S : AST) (st : List AT) : Option (List AO) := match st with
  | .inl y :: .inl x :: r => t_pw (pc + 1) S r (le_sub x y)
  | _ => none
def jx_mul (pc : Nat) (S : AST) (st : List AT) : Option (List AO) := match st with
  | .inl y :: .inl x :: r => if y.1 = [] then t_pw (pc + 1) S r (le_mul y.2 x) else if x.1 = [] then t_pw (pc + 1) S r (le_mul x.2 y) else t_pi (pc + 1) S r (-2147483648) 2147483647
  | _ => none
-- two numbers that are known, else a range that holds anyway
def jx_cc (f : Int32 → Int32 → Int32) (d : LE → LE → Int × Int) (pc : Nat) (S : AST) (st : List AT) : Option (List AO) := match st with
  | .inl y :: .inl x :: r => if x.1 = [] ∧ y.1 = [] then t_pe (pc + 1) S r (le_c (f (Int32.ofInt x.2) (Int32.ofInt y.2)).toInt) else t_pi (pc + 1) S r (d x y).1 (d x y).2
  | _ => none
def d_top : LE → LE → Int × Int := fun _ _ => (-2147483648, 2147483647)
def d_and : LE → LE → Int × Int := fun x y => if y.1 = [] ∧ 0 ≤ y.2 then (0, y.2) else if x.1 = [] ∧ 0 ≤ x.2 then (0, x.2) else (-2147483648, 2147483647)
-- division by a known number above 0
def jx_div (pc : Nat) (S : AST) (st : List AT) : Option (List AO) := match st with
  | .inl y :: .inl x :: r => if y.1 = [] ∧ 0 < y.2 then (match l_ub (a_iv S) x.1 with
      | some u => if le_ent (a_iv S) (a_cs S) (le_mul (-1) x) = true then t_pi (pc + 1) S r 0 ((u + x.2) / y.2) else t_pi (pc + 1) S r (-2147483648) 2147483647
      | none => none) else if le_ent (a_iv S) (a_cs S) (le_sub (le_c 1) y) = true then (match l_ub (a_iv S) x.1 with
      | some u => if le_ent (a_iv S) (a_cs S) (le_mul (-1) x) = true then t_pi (pc + 1) S r 0 (u + x.2) else t_pi (pc + 1) S r (-2147483648) 2147483647
      | none => none) else none
  | _ => none
-- a new symbol with a range and a constraint
def t_pic (pc : Nat) (S : AST) (st : List AT) (lo hi : Int) (y : LE) : Option (List AO) := if f_S (a_nx S) (w_fs S (a_lv S) st) = true ∧ l_fr (a_nx S) y.1 = true then some [(pc, w_cs (w_nx (w_fs (w_iv S ((a_nx S, (lo, hi)) :: a_iv S)) (a_lv S) (.inl (le_s (a_nx S)) :: st)) (a_nx S + 1)) (le_add (le_sub (le_s (a_nx S)) y) (le_c 1) :: a_cs S))] else none
def jx_rem (pc : Nat) (S : AST) (st : List AT) : Option (List AO) := match st with
  | .inl y :: .inl x :: r => if y.1 = [] ∧ 0 < y.2 then (if le_ent (a_iv S) (a_cs S) (le_mul (-1) x) = true then t_pi (pc + 1) S r 0 (y.2 - 1) else t_pi (pc + 1) S r (-2147483648) 2147483647) else if le_ent (a_iv S) (a_cs S) (le_sub (le_c 1) y) = true then (if le_ent (a_iv S) (a_cs S) (le_mul (-1) x) = true then t_pic (pc + 1) S r 0 2147483647 y else t_pi (pc + 1) S r (-2147483648) 2147483647) else none
  | _ => none
section
variable {sp : List RS} {ρ : Nat → Nat} {W : List (Nat × Nat)} {K : List Int} {KA : List Nat} {S : AST} {lv' : List (Nat × Value)} {st' : List Value} {h : MH} {pc : Nat} {st : List AT} {σ : Nat → Int} {α : Nat → Nat}
theorem t_sc {a : AT} {r : List AT} {v : List Value} (h : t_sk σ α ρ (a :: r) v) : ∃ x q, v = x :: q ∧ t_at σ α ρ a x ∧ t_sk σ α ρ r q := by
  cases v with
  | nil => exact h.elim
  | cons x q => exact ⟨x, q, rfl, h.1, h.2⟩
theorem le_const {e : LE} (h : e.1 = []) : le_ev σ e = e.2 := by
  unfold le_ev
  rw [h]
  exact Int.zero_add _
theorem q_add (ht : TH sp ρ h) (hw : TW ρ K KA S lv' st' h σ α) (hs : t_sk σ α ρ st st') : T_P sp ρ W K KA (jx_add pc S st) h (e_ii (fun x y => x + y) pc lv' st' h) := by
  unfold jx_add
  split
  · next y x r =>
    obtain ⟨v, q, e1, ⟨y', rfl, hy⟩, hq1⟩ := t_sc hs
    obtain ⟨v, q2, e2, ⟨x', rfl, hx⟩, hq⟩ := t_sc hq1
    subst e2
    subst e1
    refine q_pw ht hw hq (fun h1 h2 => ?_)
    rw [le_addE, ← hx, ← hy] at h1 h2 ⊢
    exact i_add _ _ h1 h2
  · exact q_no
theorem q_sub (ht : TH sp ρ h) (hw : TW ρ K KA S lv' st' h σ α) (hs : t_sk σ α ρ st st') : T_P sp ρ W K KA (jx_sub pc S st) h (e_ii (fun x y => x - y) pc lv' st' h) := by
  unfold jx_sub
  split
  · next y x r =>
    obtain ⟨v, q, e1, ⟨y', rfl, hy⟩, hq1⟩ := t_sc hs
    obtain ⟨v, q2, e2, ⟨x', rfl, hx⟩, hq⟩ := t_sc hq1
    subst e2
    subst e1
    refine q_pw ht hw hq (fun h1 h2 => ?_)
    rw [le_subE, ← hx, ← hy] at h1 h2 ⊢
    exact i_sub _ _ h1 h2
  · exact q_no
theorem q_mul (ht : TH sp ρ h) (hw : TW ρ K KA S lv' st' h σ α) (hs : t_sk σ α ρ st st') : T_P sp ρ W K KA (jx_mul pc S st) h (e_ii (fun x y => x * y) pc lv' st' h) := by
  unfold jx_mul
  split
  · next y x r =>
    obtain ⟨v, q, e1, ⟨y', rfl, hy⟩, hq1⟩ := t_sc hs
    obtain ⟨v, q2, e2, ⟨x', rfl, hx⟩, hq⟩ := t_sc hq1
    subst e2
    subst e1
    split
    · next hc =>
      refine q_pw ht hw hq (fun h1 h2 => ?_)
      have e3 : y'.toInt = y.2 := by rw [hy, le_const hc]
      rw [le_mulE, ← hx, ← e3, Int.mul_comm] at h1 h2 ⊢
      exact i_mul _ _ h1 h2
    · split
      · next hc =>
        refine q_pw ht hw hq (fun h1 h2 => ?_)
        have e3 : x'.toInt = x.2 := by rw [hx, le_const hc]
        rw [le_mulE, ← hy, ← e3] at h1 h2 ⊢
        exact i_mul _ _ h1 h2
      · obtain ⟨k1, k2⟩ := g_iT (x' * y')
        exact q_pi ht hw hq k1 k2
  · exact q_no
theorem q_cc (f : Int32 → Int32 → Int32) (d : LE → LE → Int × Int) (hd : ∀ (x y : LE) (x' y' : Int32), x'.toInt = le_ev σ x → y'.toInt = le_ev σ y → (d x y).1 ≤ (f x' y').toInt ∧ (f x' y').toInt ≤ (d x y).2) (ht : TH sp ρ h) (hw : TW ρ K KA S lv' st' h σ α) (hs : t_sk σ α ρ st st') : T_P sp ρ W K KA (jx_cc f d pc S st) h (e_ii f pc lv' st' h) := by
  unfold jx_cc
  split
  · next y x r =>
    obtain ⟨v, q, e1, ⟨y', rfl, hy⟩, hq1⟩ := t_sc hs
    obtain ⟨v, q2, e2, ⟨x', rfl, hx⟩, hq⟩ := t_sc hq1
    subst e2
    subst e1
    split
    · next hc =>
      have e3 : Int32.ofInt x.2 = x' := by rw [← le_const (σ := σ) hc.1, ← hx, Int32.ofInt_toInt]
      have e4 : Int32.ofInt y.2 = y' := by rw [← le_const (σ := σ) hc.2, ← hy, Int32.ofInt_toInt]
      rw [e3, e4]
      exact q_pe ht hw hq (by rw [le_cE])
    · obtain ⟨k1, k2⟩ := hd x y x' y' hx hy
      exact q_pi ht hw hq k1 k2
  · exact q_no
theorem d_topS (f : Int32 → Int32 → Int32) (x y : LE) (x' y' : Int32) (_ : x'.toInt = le_ev σ x) (_ : y'.toInt = le_ev σ y) : (d_top x y).1 ≤ (f x' y').toInt ∧ (f x' y').toInt ≤ (d_top x y).2 := g_iT _
theorem i_andR (x y : Int32) (hy : 0 ≤ y.toInt) : 0 ≤ (x &&& y).toInt ∧ (x &&& y).toInt ≤ y.toInt := by
  have hyb := Int32.toInt_lt y
  have e1 : y.toInt = y.toBitVec.toInt := rfl
  have hmy : 2 * y.toBitVec.toNat < 2 ^ 32 := by
    rcases Nat.lt_or_ge (2 * y.toBitVec.toNat) (2 ^ 32) with q | q
    · exact q
    · have := BitVec.toInt_eq_toNat_cond y.toBitVec
      rw [if_neg (by omega)] at this
      have h2 := y.toBitVec.isLt
      omega
  have e2 : y.toInt = (y.toBitVec.toNat : Int) := BitVec.toInt_eq_toNat_of_lt hmy
  have h3 : (x &&& y).toBitVec.toNat ≤ y.toBitVec.toNat := by
    rw [Int32.toBitVec_and, BitVec.toNat_and]
    exact Nat.and_le_right
  have e3 : (x &&& y).toInt = ((x &&& y).toBitVec.toNat : Int) := BitVec.toInt_eq_toNat_of_lt (by omega)
  rw [e3, e2]
  omega
theorem d_andS (x y : LE) (x' y' : Int32) (hx : x'.toInt = le_ev σ x) (hy : y'.toInt = le_ev σ y) : (d_and x y).1 ≤ (x' &&& y').toInt ∧ (x' &&& y').toInt ≤ (d_and x y).2 := by
  unfold d_and
  split
  · next hc =>
    have e := le_const (σ := σ) hc.1
    have := i_andR x' y' (by omega)
    dsimp only
    omega
  · split
    · next hc =>
      have e := le_const (σ := σ) hc.1
      have := i_andR y' x' (by omega)
      rw [Int32.and_comm] at this
      dsimp only
      omega
    · exact g_iT _
theorem q_div (ht : TH sp ρ h) (hw : TW ρ K KA S lv' st' h σ α) (hs : t_sk σ α ρ st st') : T_P sp ρ W K KA (jx_div pc S st) h (e_dv (fun x y => x / y) pc lv' st' h) := by
  unfold jx_div
  split
  · next y x r =>
    obtain ⟨v, q, e1, ⟨y', rfl, hy⟩, hq1⟩ := t_sc hs
    obtain ⟨v, q2, e2, ⟨x', rfl, hx⟩, hq⟩ := t_sc hq1
    subst e2
    subst e1
    have hz : 0 < y'.toInt → ¬ y' = 0 := fun z e => by
      rw [e] at z
      exact absurd z (by decide)
    show T_P sp ρ W K KA _ h (if y' = 0 then none else _)
    split
    · next hc =>
      have e := le_const (σ := σ) hc.1
      rw [if_neg (hz (by omega))]
      split
      · next u hu =>
        split
        · next hn =>
          have h1 := le_entS hw.1 hw.2.1 hn
          rw [le_mulE] at h1
          have h2 := l_ubS hw.1 x.1 u hu
          have hx0 : 0 ≤ x'.toInt := by omega
          have hd := i_div x' y' hx0 (by omega)
          have hxu : x'.toInt ≤ u + x.2 := by
            rw [hx]
            unfold le_ev
            omega
          have h4 : 0 ≤ x'.toInt / y'.toInt := Int.ediv_nonneg hx0 (by omega)
          have h5 : x'.toInt / y'.toInt ≤ (u + x.2) / y.2 := by
            rw [hy, e]
            exact Int.ediv_le_ediv hc.2 hxu
          exact q_pi ht hw hq (by rw [hd]; exact h4) (by rw [hd]; exact h5)
        · obtain ⟨k1, k2⟩ := g_iT (x' / y')
          exact q_pi ht hw hq k1 k2
      · exact q_no
    · split
      · next hc =>
        have hy1 := le_entS hw.1 hw.2.1 hc
        rw [le_subE, le_cE] at hy1
        rw [if_neg (hz (by omega))]
        split
        · next u hu =>
          split
          · next hn =>
            have h1 := le_entS hw.1 hw.2.1 hn
            rw [le_mulE] at h1
            have h2 := l_ubS hw.1 x.1 u hu
            have hx0 : 0 ≤ x'.toInt := by omega
            have hd := i_div x' y' hx0 (by omega)
            have hxu : x'.toInt ≤ u + x.2 := by
              rw [hx]
              unfold le_ev
              omega
            have h4 : 0 ≤ x'.toInt / y'.toInt := Int.ediv_nonneg hx0 (by omega)
            have h5 : x'.toInt / y'.toInt ≤ x'.toInt := Int.ediv_le_self _ hx0
            exact q_pi ht hw hq (by rw [hd]; exact h4) (by rw [hd]; omega)
          · obtain ⟨k1, k2⟩ := g_iT (x' / y')
            exact q_pi ht hw hq k1 k2
        · exact q_no
      · exact q_no
  · exact q_no
theorem q_pic {st0 : List Value} {lo hi : Int} {y : LE} {x : Int32} (ht : TH sp ρ h) (hw : TW ρ K KA S lv' st0 h σ α) (hs : t_sk σ α ρ st st') (h1 : lo ≤ x.toInt) (h2 : x.toInt ≤ hi) (h3 : x.toInt ≤ le_ev σ y - 1) : T_P sp ρ W K KA (t_pic pc S st lo hi y) h (m_go pc lv' (.int x :: st') h) := fun L e9 => by
  unfold t_pic at e9
  split at e9
  · next hf =>
    cases (Option.some.inj e9)
    have hw2 := f_SS x.toInt 0 hf.1 (q_fs hw hw.2.2.2.2.2.1 hs)
    refine ⟨pc, lv', _, h, rfl, FR.refl _ _ _, _, List.mem_singleton.mpr rfl, ht, s_up σ (a_nx S) x.toInt, o_up α (a_nx S) 0, ?_⟩
    obtain ⟨w1, w2, w3, w4, w5, w6, w7⟩ := hw2
    have hn : s_up σ (a_nx S) x.toInt (a_nx S) = x.toInt := if_pos rfl
    refine ⟨fun q hq => ?_, fun q hq => ?_, w3, w4, w5, w6, ⟨x, rfl, by rw [le_sE, hn]⟩, w7⟩
    · rcases List.mem_cons.mp hq with e | hq
      · rw [e]
        show lo ≤ s_up σ (a_nx S) x.toInt (a_nx S) ∧ s_up σ (a_nx S) x.toInt (a_nx S) ≤ hi
        rw [hn]
        exact ⟨h1, h2⟩
      · exact w1 q hq
    · rcases List.mem_cons.mp hq with e | hq
      · rw [e, le_addE, le_subE, le_sE, le_cE, hn, le_frS σ _ _ y hf.2]
        omega
      · exact w2 q hq
  · cases e9
theorem i_rem (x y : Int32) (hx : 0 ≤ x.toInt) (hy : 0 < y.toInt) : 0 ≤ (x - x / y * y).toInt ∧ (x - x / y * y).toInt ≤ y.toInt - 1 := by
  have hd := i_div x y hx hy
  have h1 := Int32.toInt_lt x
  have h4 : 0 ≤ x.toInt / y.toInt := Int.ediv_nonneg hx (by omega)
  have h5 : x.toInt / y.toInt * y.toInt ≤ x.toInt := Int.ediv_mul_le _ (by omega)
  have h6 : 0 ≤ x.toInt / y.toInt * y.toInt := Int.mul_nonneg h4 (by omega)
  have hm : (x / y * y).toInt = x.toInt / y.toInt * y.toInt := by
    rw [i_mul _ _ (by rw [hd]; omega) (by rw [hd]; omega), hd]
  have h7 := Int.emod_lt_of_pos x.toInt hy
  have h8 := Int.emod_nonneg x.toInt (show y.toInt ≠ 0 by omega)
  have h9 := Int.emod_add_mul_ediv x.toInt y.toInt
  rw [Int.mul_comm] at h9
  rw [i_sub _ _ (by rw [hm]; omega) (by rw [hm]; omega), hm]
  omega
theorem q_rem (ht : TH sp ρ h) (hw : TW ρ K KA S lv' st' h σ α) (hs : t_sk σ α ρ st st') : T_P sp ρ W K KA (jx_rem pc S st) h (e_dv (fun x y => x - x / y * y) pc lv' st' h) := by
  unfold jx_rem
  split
  · next y x r =>
    obtain ⟨v, q, e1, ⟨y', rfl, hy⟩, hq1⟩ := t_sc hs
    obtain ⟨v, q2, e2, ⟨x', rfl, hx⟩, hq⟩ := t_sc hq1
    subst e2
    subst e1
    have hz : ∀ z : 0 < y'.toInt, ¬ y' = 0 := fun z e => by
      rw [e] at z
      exact absurd z (by decide)
    show T_P sp ρ W K KA _ h (if y' = 0 then none else _)
    split
    · next hc =>
      have e := le_const (σ := σ) hc.1
      have hy1 : 0 < y'.toInt := by omega
      rw [if_neg (hz hy1)]
      split
      · next hn =>
        have h1 := le_entS hw.1 hw.2.1 hn
        rw [le_mulE] at h1
        obtain ⟨k1, k2⟩ := i_rem x' y' (by omega) hy1
        exact q_pi ht hw hq k1 (by show (x' - x' / y' * y').toInt ≤ y.2 - 1; omega)
      · obtain ⟨k1, k2⟩ := g_iT (x' - x' / y' * y')
        exact q_pi ht hw hq k1 k2
    · split
      · next hn =>
        have h1 := le_entS hw.1 hw.2.1 hn
        rw [le_subE, le_cE] at h1
        rw [if_neg (hz (by omega))]
        split
        · next hn2 =>
          have h2 := le_entS hw.1 hw.2.1 hn2
          rw [le_mulE] at h2
          obtain ⟨k1, k2⟩ := i_rem x' y' (by omega) (by omega)
          have k3 := (g_iT (x' - x' / y' * y')).2
          exact q_pic ht hw hq k1 k3 (by rw [← hy]; exact k2)
        · obtain ⟨k1, k2⟩ := g_iT (x' - x' / y' * y')
          exact q_pi ht hw hq k1 k2
      · exact q_no
  · exact q_no
-- one int
def jx_i1 (f : Int32 → Int32) (lo hi : Int) (pc : Nat) (S : AST) (st : List AT) : Option (List AO) := match st with
  | .inl x :: r => if x.1 = [] then t_pe (pc + 1) S r (le_c (f (Int32.ofInt x.2)).toInt) else t_pi (pc + 1) S r lo hi
  | _ => none
theorem q_i1 (f : Int32 → Int32) (lo hi : Int) (hd : ∀ x', lo ≤ (f x').toInt ∧ (f x').toInt ≤ hi) (ht : TH sp ρ h) (hw : TW ρ K KA S lv' st' h σ α) (hs : t_sk σ α ρ st st') : T_P sp ρ W K KA (jx_i1 f lo hi pc S st) h (e_i (fun x => .int (f x)) pc lv' st' h) := by
  unfold jx_i1
  split
  · next x r =>
    obtain ⟨v, q, e1, ⟨x', rfl, hx⟩, hq⟩ := t_sc hs
    subst e1
    split
    · next hc =>
      have e3 : Int32.ofInt x.2 = x' := by rw [← le_const (σ := σ) hc, ← hx, Int32.ofInt_toInt]
      rw [e3]
      exact q_pe ht hw hq (by rw [le_cE])
    · obtain ⟨k1, k2⟩ := hd x'
      exact q_pi ht hw hq k1 k2
  · exact q_no
def jx_neg (pc : Nat) (S : AST) (st : List AT) : Option (List AO) := match st with
  | .inl x :: r => t_pw (pc + 1) S r (le_mul (-1) x)
  | _ => none
theorem q_neg (ht : TH sp ρ h) (hw : TW ρ K KA S lv' st' h σ α) (hs : t_sk σ α ρ st st') : T_P sp ρ W K KA (jx_neg pc S st) h (e_i (fun x => .int (-x)) pc lv' st' h) := by
  unfold jx_neg
  split
  · next x r =>
    obtain ⟨v, q, e1, ⟨x', rfl, hx⟩, hq⟩ := t_sc hs
    subst e1
    refine q_pw ht hw hq (fun h1 h2 => ?_)
    rw [le_mulE] at h1 h2 ⊢
    rw [i_neg x' (by omega)]
    omega
  · exact q_no
-- longs: nothing is known of them
def t_pl (pc : Nat) (S : AST) (st : List AT) : Option (List AO) := t_go pc S (.inr (.inl ()) :: st)
theorem q_pl {st0 : List Value} {x : Int64} (ht : TH sp ρ h) (hw : TW ρ K KA S lv' st0 h σ α) (hs : t_sk σ α ρ st st') : T_P sp ρ W K KA (t_pl pc S st) h (m_go pc lv' (.long x :: st') h) := q_go (st' := .long x :: st') ht hw ⟨⟨x, rfl⟩, hs⟩
def jx_ll (pc : Nat) (S : AST) (st : List AT) : Option (List AO) := match st with
  | .inr (.inl _) :: .inr (.inl _) :: r => t_pl (pc + 1) S r
  | _ => none
theorem q_ll (f : Int64 → Int64 → Int64) (ht : TH sp ρ h) (hw : TW ρ K KA S lv' st' h σ α) (hs : t_sk σ α ρ st st') : T_P sp ρ W K KA (jx_ll pc S st) h (e_ll f pc lv' st' h) := by
  unfold jx_ll
  split
  · next u1 u2 r =>
    obtain ⟨v, q, e1, ⟨y', rfl⟩, hq1⟩ := t_sc hs
    obtain ⟨v, q2, e2, ⟨x', rfl⟩, hq⟩ := t_sc hq1
    subst e2
    subst e1
    exact q_pl (x := f x' y') ht hw hq
  · exact q_no
def jx_li (pc : Nat) (S : AST) (st : List AT) : Option (List AO) := match st with
  | .inl _ :: .inr (.inl _) :: r => t_pl (pc + 1) S r
  | _ => none
theorem q_li (f : Int64 → Int32 → Int64) (ht : TH sp ρ h) (hw : TW ρ K KA S lv' st' h σ α) (hs : t_sk σ α ρ st st') : T_P sp ρ W K KA (jx_li pc S st) h (e_li f pc lv' st' h) := by
  unfold jx_li
  split
  · next u1 u2 r =>
    obtain ⟨v, q, e1, ⟨y', rfl, _⟩, hq1⟩ := t_sc hs
    obtain ⟨v, q2, e2, ⟨x', rfl⟩, hq⟩ := t_sc hq1
    subst e2
    subst e1
    exact q_pl (x := f x' y') ht hw hq
  · exact q_no
def jx_il (pc : Nat) (S : AST) (st : List AT) : Option (List AO) := match st with
  | .inl _ :: r => t_pl (pc + 1) S r
  | _ => none
theorem q_il (f : Int32 → Int64) (ht : TH sp ρ h) (hw : TW ρ K KA S lv' st' h σ α) (hs : t_sk σ α ρ st st') : T_P sp ρ W K KA (jx_il pc S st) h (e_i (fun x => .long (f x)) pc lv' st' h) := by
  unfold jx_il
  split
  · next u1 r =>
    obtain ⟨v, q, e1, ⟨y', rfl, _⟩, hq⟩ := t_sc hs
    subst e1
    exact q_pl (x := f y') ht hw hq
  · exact q_no
def jx_l1 (pc : Nat) (S : AST) (st : List AT) : Option (List AO) := match st with
  | .inr (.inl _) :: r => t_pl (pc + 1) S r
  | _ => none
theorem q_l1 (f : Int64 → Int64) (ht : TH sp ρ h) (hw : TW ρ K KA S lv' st' h σ α) (hs : t_sk σ α ρ st st') : T_P sp ρ W K KA (jx_l1 pc S st) h (e_l (fun x => .long (f x)) pc lv' st' h) := by
  unfold jx_l1
  split
  · next u1 r =>
    obtain ⟨v, q, e1, ⟨y', rfl⟩, hq⟩ := t_sc hs
    subst e1
    exact q_pl (x := f y') ht hw hq
  · exact q_no
def jx_l2i (pc : Nat) (S : AST) (st : List AT) : Option (List AO) := match st with
  | .inr (.inl _) :: r => t_pi (pc + 1) S r (-2147483648) 2147483647
  | _ => none
theorem q_l2i (f : Int64 → Int32) (ht : TH sp ρ h) (hw : TW ρ K KA S lv' st' h σ α) (hs : t_sk σ α ρ st st') : T_P sp ρ W K KA (jx_l2i pc S st) h (e_l (fun x => .int (f x)) pc lv' st' h) := by
  unfold jx_l2i
  split
  · next u1 r =>
    obtain ⟨v, q, e1, ⟨y', rfl⟩, hq⟩ := t_sc hs
    subst e1
    obtain ⟨k1, k2⟩ := g_iT (f y')
    exact q_pi ht hw hq k1 k2
  · exact q_no
end
