-- the checker's ways: locals, branches
def a_cat (t : AT) : Nat := match t with
  | .inr (.inl _) => 2
  | _ => 1
def a_s1 (lv : List (Nat × AT)) (i : Nat) (v : AT) : List (Nat × AT) := (i, v) :: lv.filter (fun q => !(q.1 == i) && !(q.1 + 1 == i && a_cat q.2 == 2))
def a_s2 (lv : List (Nat × AT)) (i : Nat) (v : AT) : List (Nat × AT) := (i, v) :: lv.filter (fun q => !(q.1 == i) && (!(q.1 == i + 1) && !(q.1 + 1 == i && a_cat q.2 == 2)))
section
variable {sp : List RS} {ρ : Nat → Nat} {W : List (Nat × Nat)} {K : List Int} {KA : List Nat} {S : AST} {lv' : List (Nat × Value)} {st' : List Value} {h : MH} {pc : Nat} {st : List AT} {σ : Nat → Int} {α : Nat → Nat}
theorem a_catE {t : AT} {v : Value} (h : t_at σ α ρ t v) : v.category = a_cat t := by
  cases t with
  | inl e =>
    obtain ⟨x, rfl, -⟩ := h
    rfl
  | inr t => cases t with
    | inl u =>
      obtain ⟨x, rfl⟩ := h
      rfl
    | inr q =>
      obtain ⟨rfl, -⟩ := h
      rfl
theorem t_lk {k : Nat} {a : AT} {l : List (Nat × AT)} {v : List (Nat × Value)} (h : t_lv σ α ρ l v) (e : m_lk l k = some a) : ∃ x, m_lk v k = some x ∧ t_at σ α ρ a x := h _ (m_lkm e)
theorem m_lkf {p : Nat × Value → Bool} {k : Nat} {x : Value} (hp : p (k, x) = true) : ∀ {v : List (Nat × Value)}, m_lk v k = some x → m_lk (v.filter p) k = some x
  | [], e => by cases e
  | q :: r, e => by
    rw [m_lkc] at e
    rw [List.filter_cons]
    by_cases hk : q.1 = k
    · rw [if_pos hk] at e
      have hq : q = (k, x) := by
        cases e
        rw [← hk]
      rw [hq, if_pos hp, m_lkc, if_pos rfl]
    · rw [if_neg hk] at e
      split
      · rw [m_lkc, if_neg hk]
        exact m_lkf hp e
      · exact m_lkf hp e
theorem t_s1 {l : List (Nat × AT)} {v : List (Nat × Value)} {k : Nat} {a : AT} {x : Value} (h : t_lv σ α ρ l v) (hv : t_at σ α ρ a x) : t_lv σ α ρ (a_s1 l k a) (m_s1 v k x) := fun q hq => by
  unfold m_s1
  rcases List.mem_cons.mp hq with e | hq
  · rw [e, m_lkc, if_pos rfl]
    exact ⟨x, rfl, hv⟩
  · obtain ⟨m1, m2⟩ := List.mem_filter.mp hq
    obtain ⟨y, h1, h2⟩ := h q m1
    have hne : ¬ k = q.1 := fun e => by
      rw [e] at m2
      simp at m2
    refine ⟨y, ?_, h2⟩
    rw [m_lkc, if_neg hne]
    refine m_lkf ?_ h1
    dsimp only
    rw [a_catE h2]
    exact m2
theorem t_s2 {l : List (Nat × AT)} {v : List (Nat × Value)} {k : Nat} {a : AT} {x : Value} (h : t_lv σ α ρ l v) (hv : t_at σ α ρ a x) : t_lv σ α ρ (a_s2 l k a) (m_s2 v k x) := fun q hq => by
  unfold m_s2
  rcases List.mem_cons.mp hq with e | hq
  · rw [e, m_lkc, if_pos rfl]
    exact ⟨x, rfl, hv⟩
  · obtain ⟨m1, m2⟩ := List.mem_filter.mp hq
    obtain ⟨y, h1, h2⟩ := h q m1
    have hne : ¬ k = q.1 := fun e => by
      rw [e] at m2
      simp at m2
    refine ⟨y, ?_, h2⟩
    rw [m_lkc, if_neg hne]
    refine m_lkf ?_ h1
    dsimp only
    rw [a_catE h2]
    exact m2
end
-- loads and stores
def j_ild (k pc : Nat) (S : AST) : Option (List AO) := match m_lk (a_lv S) k with
  | some (.inl e) => t_pe pc S (a_st S) e
  | _ => none
def j_lld (k pc : Nat) (S : AST) : Option (List AO) := match m_lk (a_lv S) k with
  | some (.inr (.inl _)) => t_pl pc S (a_st S)
  | _ => none
def j_ald (k pc : Nat) (S : AST) : Option (List AO) := match m_lk (a_lv S) k with
  | some (.inr (.inr q)) => t_go pc S (.inr (.inr q) :: a_st S)
  | _ => none
def t_gl (pc : Nat) (S : AST) (lv : List (Nat × AT)) (st : List AT) : Option (List AO) := some [(pc, w_fs S lv st)]
def j_ist (n k pc : Nat) (S : AST) : Option (List AO) := match a_st S with
  | .inl e :: r => if k < n then t_gl pc S (a_s1 (a_lv S) k (.inl e)) r else none
  | _ => none
def j_lst (n k pc : Nat) (S : AST) : Option (List AO) := match a_st S with
  | .inr (.inl u) :: r => if k + 1 < n then t_gl pc S (a_s2 (a_lv S) k (.inr (.inl u))) r else none
  | _ => none
def j_ast (n k pc : Nat) (S : AST) : Option (List AO) := match a_st S with
  | .inr (.inr q) :: r => if k < n then t_gl pc S (a_s1 (a_lv S) k (.inr (.inr q))) r else none
  | _ => none
-- what a branch teaches: none, if it can't be
def t_rg (S : AST) (k : Nat) (lo hi : Int) : Option AST := if hi < lo then none else some (w_iv S ((k, (lo, hi)) :: a_iv S))
-- what a constraint says of each of its symbols by the others' ranges
def t_tg1 (k : Nat) (a : Int) (e : LE) (iv : IV) : IV := match m_lk iv k, l_ub iv (l_add (-1) e.1 [(k, a)]) with
  | some p, some u => if a = 1 then (if u - e.2 < p.2 then (k, (p.1, u - e.2)) :: iv else iv) else if a = -1 then (if p.1 < e.2 - u then (k, (e.2 - u, p.2)) :: iv else iv) else iv
  | _, _ => iv
def t_tg : List (Nat × Int) → LE → IV → IV
  | [], _, iv => iv
  | (k, a) :: r, e, iv => t_tg r e (t_tg1 k a e iv)
def t_tgS (e : LE) (S : AST) : AST := w_iv (w_cs S (e :: a_cs S)) (t_tg e.1 e (a_iv S))
def t_asm (e : LE) (S : AST) : Option AST := match e.1 with
  | [] => if 0 < e.2 then none else some S
  | [(k, a)] => (match m_lk (a_iv S) k with
    | some p => if a = 1 then t_rg S k p.1 (if -e.2 < p.2 then -e.2 else p.2) else if a = -1 then t_rg S k (if p.1 < e.2 then e.2 else p.1) p.2 else some (w_cs S (e :: a_cs S))
    | none => some (w_cs S (e :: a_cs S)))
  | _ => if le_ent (a_iv S) (a_cs S) (le_sub (le_c 1) e) = true then none else some (t_tgS e S)
def t_nq (e : LE) (S : AST) : Option AST := match e.1 with
  | [] => if e.2 = 0 then none else some S
  | [(k, a)] => (match m_lk (a_iv S) k with
    | some p => if a = 1 ∨ a = -1 then (if p.1 = -(a * e.2) then t_rg S k (p.1 + 1) p.2 else if p.2 = -(a * e.2) then t_rg S k p.1 (p.2 - 1) else some S) else some S
    | none => some S)
  | _ => some S
def t_cnd (c : ClassFile.Cond) (x y : LE) (S : AST) : Option AST := match c with
  | .lt => t_asm (le_add (le_sub x y) (le_c 1)) S
  | .ge => t_asm (le_sub y x) S
  | .gt => t_asm (le_add (le_sub y x) (le_c 1)) S
  | .le => t_asm (le_sub x y) S
  | .eq => (t_asm (le_sub x y) S).bind (t_asm (le_sub y x))
  | .ne => t_nq (le_sub x y) S
def t_neg (c : ClassFile.Cond) : ClassFile.Cond := match c with
  | .lt => .ge
  | .ge => .lt
  | .gt => .le
  | .le => .gt
  | .eq => .ne
  | .ne => .eq
def t_br (c : ClassFile.Cond) (x y : LE) (pc : Nat) (off : Int) (S : AST) (st : List AT) : Option (List AO) := if 0 ≤ (pc : Int) + off then some (((t_cnd c x y (w_fs S (a_lv S) st)).map (fun S => (((pc : Int) + off).toNat, S))).toList ++ ((t_cnd (t_neg c) x y (w_fs S (a_lv S) st)).map (fun S => (pc + 3, S))).toList) else none
section
variable {sp : List RS} {ρ : Nat → Nat} {W : List (Nat × Nat)} {K : List Int} {KA : List Nat} {S : AST} {lv' : List (Nat × Value)} {st' : List Value} {h : MH} {pc : Nat} {st : List AT} {σ : Nat → Int} {α : Nat → Nat}
theorem r_rg {k : Nat} {lo hi : Int} (hw : TW ρ K KA S lv' st' h σ α) (h1 : lo ≤ σ k) (h2 : σ k ≤ hi) : ∃ S', t_rg S k lo hi = some S' ∧ TW ρ K KA S' lv' st' h σ α := by
  unfold t_rg
  rw [if_neg (by omega)]
  obtain ⟨w1, w2, w3, w4, w5, w6, w7⟩ := hw
  refine ⟨_, rfl, fun q hq => ?_, w2, w3, w4, w5, w6, w7⟩
  rcases List.mem_cons.mp hq with e | hq
  · rw [e]
    exact ⟨h1, h2⟩
  · exact w1 q hq
theorem r_cs {e : LE} (hw : TW ρ K KA S lv' st' h σ α) (he : le_ev σ e ≤ 0) : ∃ S', some (w_cs S (e :: a_cs S)) = some S' ∧ TW ρ K KA S' lv' st' h σ α := by
  obtain ⟨w1, w2, w3, w4, w5, w6, w7⟩ := hw
  refine ⟨_, rfl, w1, fun q hq => ?_, w3, w4, w5, w6, w7⟩
  rcases List.mem_cons.mp hq with e9 | hq
  · rw [e9]
    exact he
  · exact w2 q hq
theorem r_tg1 {k : Nat} {a : Int} {e : LE} {iv : IV} (hi : iv_ok σ iv) (he : le_ev σ e ≤ 0) : iv_ok σ (t_tg1 k a e iv) := by
  unfold t_tg1
  split
  · next p u hp hu =>
    have h1 := l_ubS hi _ u hu
    have h2 := iv_lk hi hp
    rw [l_addE] at h1
    have e1 : l_ev σ [(k, a)] = a * σ k := by
      show a * σ k + 0 = _
      omega
    rw [e1] at h1
    have e2 : le_ev σ e = l_ev σ e.1 + e.2 := rfl
    split
    · next ha =>
      rw [ha] at h1
      split
      · intro q hq
        rcases List.mem_cons.mp hq with e9 | hq
        · rw [e9]
          dsimp only
          omega
        · exact hi q hq
      · exact hi
    · split
      · next ha =>
        rw [ha] at h1
        split
        · intro q hq
          rcases List.mem_cons.mp hq with e9 | hq
          · rw [e9]
            dsimp only
            omega
          · exact hi q hq
        · exact hi
      · exact hi
  · exact hi
theorem r_tg {e : LE} (he : le_ev σ e ≤ 0) : ∀ (l : List (Nat × Int)) (iv : IV), iv_ok σ iv → iv_ok σ (t_tg l e iv)
  | [], _, hi => hi
  | (k, a) :: r, iv, hi => r_tg he r _ (r_tg1 hi he)
theorem r_tgS {e : LE} (hw : TW ρ K KA S lv' st' h σ α) (he : le_ev σ e ≤ 0) : ∃ S', some (t_tgS e S) = some S' ∧ TW ρ K KA S' lv' st' h σ α := by
  obtain ⟨w1, w2, w3, w4, w5, w6, w7⟩ := hw
  refine ⟨_, rfl, r_tg he e.1 _ w1, fun q hq => ?_, w3, w4, w5, w6, w7⟩
  rcases List.mem_cons.mp hq with e9 | hq
  · rw [e9]
    exact he
  · exact w2 q hq
theorem r_asm {e : LE} (hw : TW ρ K KA S lv' st' h σ α) (he : le_ev σ e ≤ 0) : ∃ S', t_asm e S = some S' ∧ TW ρ K KA S' lv' st' h σ α := by
  obtain ⟨l, c⟩ := e
  unfold t_asm
  dsimp only
  split
  · have : le_ev σ ([], c) = c := Int.zero_add c
    rw [if_neg (by omega)]
    exact ⟨S, rfl, hw⟩
  · next k a =>
    have e1 : le_ev σ ([(k, a)], c) = a * σ k + 0 + c := rfl
    split
    · next p hp =>
      have hr := iv_lk hw.1 hp
      split
      · next h1 =>
        rw [e1, h1] at he
        refine r_rg hw hr.1 ?_
        split <;> omega
      · split
        · next h1 =>
          rw [e1, h1] at he
          refine r_rg hw ?_ hr.2
          split <;> omega
        · exact r_cs hw he
    · exact r_cs hw he
  · split
    · next hn =>
      have := le_entS hw.1 hw.2.1 hn
      rw [le_subE, le_cE] at this
      omega
    · exact r_tgS hw he
theorem r_ne {e : LE} (hw : TW ρ K KA S lv' st' h σ α) (he : le_ev σ e ≠ 0) : ∃ S', t_nq e S = some S' ∧ TW ρ K KA S' lv' st' h σ α := by
  obtain ⟨l, c⟩ := e
  unfold t_nq
  dsimp only
  split
  · have : le_ev σ ([], c) = c := Int.zero_add c
    rw [if_neg (by omega)]
    exact ⟨S, rfl, hw⟩
  · next k a =>
    have e1 : le_ev σ ([(k, a)], c) = a * σ k + 0 + c := rfl
    split
    · next p hp =>
      have hr := iv_lk hw.1 hp
      split
      · next h1 =>
        have hne : σ k ≠ -(a * c) := fun z => by
          rcases h1 with h1 | h1
          · rw [e1, h1] at he
            rw [h1] at z
            omega
          · rw [e1, h1] at he
            rw [h1] at z
            omega
        split
        · next h2 => exact r_rg hw (by omega) hr.2
        · split
          · next h2 => exact r_rg hw hr.1 (by omega)
          · exact ⟨S, rfl, hw⟩
      · exact ⟨S, rfl, hw⟩
    · exact ⟨S, rfl, hw⟩
  · exact ⟨S, rfl, hw⟩
theorem r_cnd {c : ClassFile.Cond} {x y : LE} {x' y' : Int32} (hx : x'.toInt = le_ev σ x) (hy : y'.toInt = le_ev σ y) (hw : TW ρ K KA S lv' st' h σ α) (hb : m_cmp c x' y' = true) : ∃ S', t_cnd c x y S = some S' ∧ TW ρ K KA S' lv' st' h σ α := by
  cases c with
  | lt =>
    have h1 := Int32.lt_iff_toInt_lt.mp (of_decide_eq_true hb)
    exact r_asm hw (by rw [le_addE, le_subE, le_cE]; omega)
  | ge =>
    have h1 := Int32.le_iff_toInt_le.mp (of_decide_eq_true hb)
    exact r_asm hw (by rw [le_subE]; omega)
  | gt =>
    have h1 := Int32.lt_iff_toInt_lt.mp (of_decide_eq_true hb)
    exact r_asm hw (by rw [le_addE, le_subE, le_cE]; omega)
  | le =>
    have h1 := Int32.le_iff_toInt_le.mp (of_decide_eq_true hb)
    exact r_asm hw (by rw [le_subE]; omega)
  | eq =>
    have h1 : x' = y' := of_decide_eq_true hb
    obtain ⟨S1, e1, w1⟩ := r_asm (e := le_sub x y) hw (by rw [le_subE]; rw [h1] at hx; omega)
    obtain ⟨S2, e2, w2⟩ := r_asm (e := le_sub y x) w1 (by rw [le_subE]; rw [h1] at hx; omega)
    refine ⟨S2, ?_, w2⟩
    show (t_asm (le_sub x y) S).bind (t_asm (le_sub y x)) = some S2
    rw [e1]
    exact e2
  | ne =>
    have h1 : (!decide (x' = y')) = true := hb
    rw [Bool.not_eq_true'] at h1
    have h2 : ¬ x' = y' := of_decide_eq_false h1
    exact r_ne hw (by rw [le_subE]; intro z; exact h2 (Int32.toInt_inj.mp (by omega)))
theorem m_neg (c : ClassFile.Cond) (x y : Int32) : m_cmp (t_neg c) x y = !m_cmp c x y := by
  cases c with
  | lt => exact g_ge x y
  | ge =>
    show decide (x < y) = !decide (y ≤ x)
    rw [g_ge]
    cases decide (x < y) <;> rfl
  | gt => exact g_ge y x
  | le =>
    show decide (y < x) = !decide (x ≤ y)
    rw [g_ge]
    cases decide (y < x) <;> rfl
  | eq => rfl
  | ne =>
    show decide (x = y) = !(!decide (x = y))
    cases decide (x = y) <;> rfl
theorem q_br {c : ClassFile.Cond} {x y : LE} {x' y' : Int32} {off : Int} {st0 : List Value} (hx : x'.toInt = le_ev σ x) (hy : y'.toInt = le_ev σ y) (ht : TH sp ρ h) (hw : TW ρ K KA S lv' st0 h σ α) (hs : t_sk σ α ρ st st') : T_P sp ρ W K KA (t_br c x y pc off S st) h (m_br (m_cmp c x' y') pc off lv' st' h) := by
  have hw2 := q_fs (st := st) (st' := st') hw hw.2.2.2.2.2.1 hs
  unfold t_br m_br
  by_cases h0 : 0 ≤ (pc : Int) + off
  · rw [if_pos h0, if_pos h0]
    intro L e
    cases e
    cases hb : m_cmp c x' y' with
    | true =>
      obtain ⟨S', e1, w⟩ := r_cnd hx hy hw2 hb
      refine ⟨_, lv', st', h, rfl, FR.refl _ _ _, S', List.mem_append_left _ ?_, ht, σ, α, w⟩
      rw [e1]
      exact List.mem_singleton.mpr rfl
    | false =>
      obtain ⟨S', e1, w⟩ := r_cnd hx hy hw2 (c := t_neg c) (by rw [m_neg, hb]; rfl)
      refine ⟨_, lv', st', h, rfl, FR.refl _ _ _, S', List.mem_append_right _ ?_, ht, σ, α, w⟩
      rw [e1]
      exact List.mem_singleton.mpr rfl
  · rw [if_neg h0]
    exact q_no
theorem q_ild (k : Nat) (ht : TH sp ρ h) (hw : TW ρ K KA S lv' st' h σ α) : T_P sp ρ W K KA (j_ild k pc S) h (e_ild k pc lv' st' h) := by
  unfold j_ild e_ild
  split
  · next e he =>
    obtain ⟨v, e2, ⟨x, rfl, hx⟩⟩ := t_lk hw.2.2.2.2.2.1 he
    rw [e2]
    exact q_pe ht hw hw.2.2.2.2.2.2 hx
  · exact q_no
theorem q_lld (k : Nat) (ht : TH sp ρ h) (hw : TW ρ K KA S lv' st' h σ α) : T_P sp ρ W K KA (j_lld k pc S) h (e_lld k pc lv' st' h) := by
  unfold j_lld e_lld
  split
  · next u he =>
    obtain ⟨v, e2, ⟨x, rfl⟩⟩ := t_lk hw.2.2.2.2.2.1 he
    rw [e2]
    exact q_pl ht hw hw.2.2.2.2.2.2
  · exact q_no
theorem q_ald (k : Nat) (ht : TH sp ρ h) (hw : TW ρ K KA S lv' st' h σ α) : T_P sp ρ W K KA (j_ald k pc S) h (e_ald k pc lv' st' h) := by
  unfold j_ald e_ald
  split
  · next q he =>
    obtain ⟨v, e2, hv⟩ := t_lk hw.2.2.2.2.2.1 he
    have hv2 := hv
    obtain ⟨rfl, -⟩ := hv2
    rw [e2]
    exact q_go (st := .inr (.inr q) :: a_st S) ht hw ⟨hv, hw.2.2.2.2.2.2⟩
  · exact q_no
theorem q_gl {lv : List (Nat × AT)} {lv0 : List (Nat × Value)} {st0 : List Value} (ht : TH sp ρ h) (hw : TW ρ K KA S lv0 st0 h σ α) (hl : t_lv σ α ρ lv lv') (hs : t_sk σ α ρ st st') : T_P sp ρ W K KA (t_gl pc S lv st) h (m_go pc lv' st' h) := fun L e => by
  cases (Option.some.inj e)
  exact ⟨pc, lv', st', h, rfl, FR.refl _ _ _, _, List.mem_singleton.mpr rfl, ht, σ, α, q_fs hw hl hs⟩
theorem q_ist (n k : Nat) (ht : TH sp ρ h) (hw : TW ρ K KA S lv' st' h σ α) : T_P sp ρ W K KA (j_ist n k pc S) h (e_ist n k pc lv' st' h) := by
  have hs := hw.2.2.2.2.2.2
  unfold j_ist
  split
  · next e r hst =>
    rw [hst] at hs
    obtain ⟨v, q, rfl, ⟨x, rfl, hx⟩, hq⟩ := t_sc hs
    show T_P sp ρ W K KA _ h (if k < n then _ else none)
    split
    · exact q_gl ht hw (t_s1 hw.2.2.2.2.2.1 ⟨x, rfl, hx⟩) hq
    · exact q_no
  · exact q_no
theorem q_lst (n k : Nat) (ht : TH sp ρ h) (hw : TW ρ K KA S lv' st' h σ α) : T_P sp ρ W K KA (j_lst n k pc S) h (e_lst n k pc lv' st' h) := by
  have hs := hw.2.2.2.2.2.2
  unfold j_lst
  split
  · next u r hst =>
    rw [hst] at hs
    obtain ⟨v, q, rfl, ⟨x, rfl⟩, hq⟩ := t_sc hs
    show T_P sp ρ W K KA _ h (if k + 1 < n then _ else none)
    split
    · exact q_gl ht hw (t_s2 hw.2.2.2.2.2.1 ⟨x, rfl⟩) hq
    · exact q_no
  · exact q_no
theorem q_ast (n k : Nat) (ht : TH sp ρ h) (hw : TW ρ K KA S lv' st' h σ α) : T_P sp ρ W K KA (j_ast n k pc S) h (e_ast n k pc lv' st' h) := by
  have hs := hw.2.2.2.2.2.2
  unfold j_ast
  split
  · next q0 r hst =>
    rw [hst] at hs
    obtain ⟨v, q, rfl, hv, hq⟩ := t_sc hs
    have hv2 := hv
    obtain ⟨rfl, -⟩ := hv2
    show T_P sp ρ W K KA _ h (if k < n then _ else none)
    split
    · exact q_gl ht hw (t_s1 hw.2.2.2.2.2.1 hv) hq
    · exact q_no
  · exact q_no
end
