-- A run with ranges is true of every run within them.
def g_i (a : AI) (x : Int32) : Prop := a.1 ≤ x.toInt ∧ x.toInt ≤ a.2
def g_j (a : AI) (x : Int64) : Prop := a.1 ≤ x.toInt ∧ x.toInt ≤ a.2
def g_v (s : AI) (a : AV) (v : Value) : Prop := match a with
  | .inl p => ∃ x, v = .int x ∧ g_i p x
  | .inr (.inl _) => ∃ x, v = .int x ∧ g_i s (x &&& 63)
  | .inr (.inr (.inl p)) => ∃ x, v = .long x ∧ g_j p x
  | .inr (.inr (.inr n)) => v = .ref n
def g_s (s : AI) : List AV → List Value → Prop
  | [], [] => True
  | a :: r, v :: q => g_v s a v ∧ g_s s r q
  | _, _ => False
def g_l (s : AI) : AL → List (Nat × Value) → Prop
  | [], [] => True
  | a :: r, v :: q => (v.1 = a.1 ∧ g_v s a.2 v.2) ∧ g_l s r q
  | _, _ => False
def g_c (c : AC) (h : MH) (a : Nat) : Prop := h_k h a = c.1 ∧ (∀ j, g_i (b_rw c.2.1 j) (h_i h a j)) ∧ (∀ j, g_j (b_rw c.2.2.1 j) (h_l h a j)) ∧ (∀ j, h_r h a j = b_gr c j)
def g_h (s : AI) (A : AH) (h : MH) : Prop := h_n h = A.1.1 ∧ h_z h = A.1.2 ∧ (∀ a c, b_cell A a = some c → g_c c h a) ∧ g_i s (h_i h 14 0 &&& 63) ∧ (h_k h 14).1 = 20
def g_o (s : AI) (a : Option AV) (v : Option Value) : Prop := match a, v with
  | none, none => True
  | some a, some v => g_v s a v
  | _, _ => False
def g_r (s : AI) (R : AA) (R' : MA) : Prop := match R, R' with
  | .inl (pc, lv, st, A), .inl (pc', lv', st', h) => pc' = pc ∧ g_l s lv lv' ∧ g_s s st st' ∧ g_h s A h
  | .inr (.inl (v, A)), .inr (.inl (v', h)) => g_o s v v' ∧ g_h s A h
  | .inr (.inr (j, as, r, pc)), .inr (.inr (j', as', r', pc')) => j' = j ∧ g_s s as as' ∧ g_s s r r' ∧ pc' = pc
  | _, _ => False
-- plain words
theorem g_sc {s : AI} {a : AV} {r : List AV} {st : List Value} (h : g_s s (a :: r) st) : ∃ v q, st = v :: q ∧ g_v s a v ∧ g_s s r q := by
  cases st with
  | nil => exact h.elim
  | cons v q => exact ⟨v, q, rfl, h.1, h.2⟩
theorem g_sn {s : AI} {st : List Value} (h : g_s s [] st) : st = [] := by
  cases st with
  | nil => rfl
  | cons v q => exact h.elim
theorem g_iT (x : Int32) : g_i b_t x := by
  have h1 := Int32.le_toInt x
  have h2 := Int32.toInt_lt x
  exact ⟨by show (-2147483648 : Int) ≤ _; omega, by show _ ≤ (2147483647 : Int); omega⟩
theorem g_jT (x : Int64) : g_j b_tl x := by
  have h1 := Int64.le_toInt x
  have h2 := Int64.toInt_lt x
  exact ⟨by show (-9223372036854775808 : Int) ≤ _; omega, by show _ ≤ (9223372036854775807 : Int); omega⟩
theorem g_iE (x : Int32) : g_i (x.toInt, x.toInt) x := ⟨Int.le_refl _, Int.le_refl _⟩
theorem g_jE (x : Int64) : g_j (x.toInt, x.toInt) x := ⟨Int.le_refl _, Int.le_refl _⟩
theorem g_iC {a : AI} {x : Int32} (h : g_i a x) (e : a.1 = a.2) : x = Int32.ofInt a.1 := by
  have : x.toInt = a.1 := by
    obtain ⟨h1, h2⟩ := h
    omega
  rw [← this, Int32.ofInt_toInt]
theorem g_jC {a : AI} {x : Int64} (h : g_j a x) (e : a.1 = a.2) : x = Int64.ofInt a.1 := by
  have : x.toInt = a.1 := by
    obtain ⟨h1, h2⟩ := h
    omega
  rw [← this, Int64.ofInt_toInt]
theorem g_f1 {f : Int32 → Int32} {a : AI} {x : Int32} (h : g_i a x) : g_i (b_f1 f a) (f x) := by
  unfold b_f1
  split
  · next e => rw [g_iC h e]; exact g_iE _
  · exact g_iT _
theorem g_f2 {f : Int32 → Int32 → Int32} {a b : AI} {x y : Int32} (h : g_i a x) (k : g_i b y) : g_i (b_f2 f a b) (f x y) := by
  unfold b_f2
  split
  · next e => rw [g_iC h e.1, g_iC k e.2]; exact g_iE _
  · exact g_iT _
theorem g_g2 {f : Int64 → Int64 → Int64} {a b : AI} {x y : Int64} (h : g_j a x) (k : g_j b y) : g_j (b_g2 f a b) (f x y) := by
  unfold b_g2
  split
  · next e => rw [g_jC h e.1, g_jC k e.2]; exact g_jE _
  · exact g_jT _
theorem g_gi {f : Int64 → Int32 → Int64} {a b : AI} {x : Int64} {y : Int32} (h : g_j a x) (k : g_i b y) : g_j (b_gi f a b) (f x y) := by
  unfold b_gi
  split
  · next e => rw [g_jC h e.1, g_iC k e.2]; exact g_jE _
  · exact g_jT _
theorem g_il {f : Int32 → Int64} {a : AI} {x : Int32} (h : g_i a x) : g_j (b_il f a) (f x) := by
  unfold b_il
  split
  · next e => rw [g_iC h e]; exact g_jE _
  · exact g_jT _
theorem g_li {f : Int64 → Int32} {a : AI} {x : Int64} (h : g_j a x) : g_i (b_li f a) (f x) := by
  unfold b_li
  split
  · next e => rw [g_jC h e]; exact g_iE _
  · exact g_iT _
theorem g_ll {f : Int64 → Int64} {a : AI} {x : Int64} (h : g_j a x) : g_j (b_ll f a) (f x) := by
  unfold b_ll
  split
  · next e => rw [g_jC h e]; exact g_jE _
  · exact g_jT _
theorem g_lc {a b : AI} {x y : Int64} (h : g_j a x) (k : g_j b y) : g_i (b_lc a b) (lg_cmp x y) := by
  unfold b_lc
  split
  · next e => rw [g_jC h e.1, g_jC k e.2]; exact g_iE _
  · exact g_iT _
theorem g_eq {a b : AI} {x y : Int32} {r : Bool} (h : g_i a x) (k : g_i b y) (e : b_eq a b = some r) : decide (x = y) = r := by
  obtain ⟨h1, h2⟩ := h
  obtain ⟨k1, k2⟩ := k
  unfold b_eq at e
  split at e
  · cases e
    exact decide_eq_true (Int32.toInt_inj.mp (by omega))
  · split at e
    · cases e
      exact decide_eq_false (fun q => by rw [q] at h1 h2; omega)
    · cases e
theorem g_lt {a b : AI} {x y : Int32} {r : Bool} (h : g_i a x) (k : g_i b y) (e : b_lt a b = some r) : decide (x < y) = r := by
  obtain ⟨h1, h2⟩ := h
  obtain ⟨k1, k2⟩ := k
  unfold b_lt at e
  split at e
  · cases e
    exact decide_eq_true (Int32.lt_iff_toInt_lt.mpr (by omega))
  · split at e
    · cases e
      exact decide_eq_false (fun q => by have := Int32.lt_iff_toInt_lt.mp q; omega)
    · cases e
theorem g_ge (x y : Int32) : decide (y ≤ x) = !decide (x < y) := by
  by_cases h : x < y
  · rw [decide_eq_true h]
    refine decide_eq_false (fun q => ?_)
    have h1 := Int32.lt_iff_toInt_lt.mp h
    have h2 := Int32.le_iff_toInt_le.mp q
    omega
  · rw [decide_eq_false h]
    refine decide_eq_true (Int32.le_iff_toInt_le.mpr ?_)
    have h1 : ¬ x.toInt < y.toInt := fun q => h (Int32.lt_iff_toInt_lt.mpr q)
    omega
theorem g_cmp {c : ClassFile.Cond} {a b : AI} {x y : Int32} {r : Bool} (h : g_i a x) (k : g_i b y) (e : b_cmp c a b = some r) : m_cmp c x y = r := by
  have hm : ∀ {o : Option Bool}, o.map (fun b => !b) = some r → o = some (!r) := by
    intro o ho
    cases o with
    | none => cases ho
    | some q => cases ho; cases q <;> rfl
  cases c with
  | eq => exact g_eq h k e
  | ne => show (!decide (x = y)) = r; rw [g_eq h k (hm e)]; cases r <;> rfl
  | lt => exact g_lt h k e
  | ge => show decide (y ≤ x) = r; rw [g_ge, g_lt h k (hm e)]; cases r <;> rfl
  | gt => exact g_lt k h e
  | le => show decide (x ≤ y) = r; rw [g_ge, g_lt k h (hm e)]; cases r <;> rfl
-- joins
theorem g_jn1 {a b : AI} {z : Int} (h : a.1 ≤ z ∧ z ≤ a.2) : (b_jn a b).1 ≤ z ∧ z ≤ (b_jn a b).2 := by
  unfold b_jn
  dsimp only
  constructor
  · split <;> omega
  · split <;> omega
theorem g_jn2 {a b : AI} {z : Int} (h : b.1 ≤ z ∧ z ≤ b.2) : (b_jn a b).1 ≤ z ∧ z ≤ (b_jn a b).2 := by
  unfold b_jn
  dsimp only
  constructor
  · split <;> omega
  · split <;> omega
theorem m_lkc {α : Type} (q : Nat × α) (r : List (Nat × α)) (b : Nat) : m_lk (q :: r) b = if q.1 = b then some q.2 else m_lk r b := by
  unfold m_lk
  rw [List.find?_cons]
  by_cases h : q.1 = b
  · rw [if_pos h, show (q.1 == b) = true from beq_iff_eq.mpr h]
    rfl
  · rw [if_neg h, show (q.1 == b) = false from beq_eq_false_iff_ne.mpr h]
theorem m_lkau {α : Type} (l : List (Nat × α)) (a : Nat) (v : α) (b : Nat) : m_lk (b_au l a v) b = if a = b then some v else m_lk l b := by
  induction l with
  | nil => rw [b_au, m_lkc]
  | cons q r ih =>
    obtain ⟨k, w⟩ := q
    rw [b_au]
    by_cases h : k = a
    · rw [if_pos h, m_lkc, m_lkc]
      by_cases h2 : a = b
      · rw [if_pos h2, if_pos h2]
      · rw [if_neg h2, if_neg h2, if_neg (by dsimp only; omega)]
    · rw [if_neg h, m_lkc, m_lkc, ih]
      by_cases h2 : a = b
      · rw [if_pos h2, if_neg (by dsimp only; omega), if_pos h2]
      · rw [if_neg h2, if_neg h2]
theorem g_all (d : AR) (j : Nat) {z : Int} (h : (b_rw d j).1 ≤ z ∧ z ≤ (b_rw d j).2) : (b_all d).1 ≤ z ∧ z ≤ (b_all d).2 := by
  obtain ⟨e, l⟩ := d
  unfold b_all
  dsimp only
  induction l with
  | nil => exact h
  | cons q r ih =>
    rw [List.foldr_cons]
    unfold b_rw at h
    rw [m_lkc] at h
    by_cases hk : q.1 = j
    · rw [if_pos hk] at h
      exact g_jn1 h
    · rw [if_neg hk] at h
      exact g_jn2 (ih h)
theorem b_rwst (d : AR) (k : Nat) (v : AI) (j : Nat) : b_rw (b_st d k v) j = if k = j then v else b_rw d j := by
  unfold b_st
  split
  · next e =>
    by_cases h : k = j
    · rw [if_pos h, ← h, e]
    · rw [if_neg h]
  · unfold b_rw
    dsimp only
    rw [m_lkau]
    by_cases h : k = j
    · rw [if_pos h, if_pos h]
    · rw [if_neg h, if_neg h]
theorem b_grau (c : AC) (k v j : Nat) : b_gr (c.1, c.2.1, c.2.2.1, b_au c.2.2.2 k v) j = if k = j then v else b_gr c j := by
  unfold b_gr
  dsimp only
  rw [m_lkau]
  by_cases h : k = j
  · rw [if_pos h, if_pos h]
  · rw [if_neg h, if_neg h]
-- the heap
theorem b_cset (A : AH) (a : Nat) (c : AC) (b : Nat) : b_cell (b_set A a c) b = if a = b then some c else b_cell A b := m_lkau _ _ _ _
theorem g_set {s : AI} {A : AH} {h h2 : MH} {a : Nat} {c : AC} (hh : g_h s A h) (ha : a ≠ 14) (h1 : h2.1 = h.1) (hk : ∀ b, h_k h2 b = h_k h b) (hb : ∀ b, b ≠ a → h_i h2 b = h_i h b ∧ h_l h2 b = h_l h b ∧ h_r h2 b = h_r h b) (hc : g_c c h2 a) : g_h s (b_set A a c) h2 := by
  obtain ⟨q1, q2, q3, q4, q5⟩ := hh
  refine ⟨by unfold h_n at q1 ⊢; rw [h1]; exact q1, by unfold h_z at q2 ⊢; rw [h1]; exact q2, fun b x hx => ?_, ?_, by rw [hk]; exact q5⟩
  · rw [b_cset] at hx
    by_cases hab : a = b
    · rw [if_pos hab] at hx
      cases hx
      rw [← hab]
      exact hc
    · rw [if_neg hab] at hx
      obtain ⟨p1, p2, p3, p4⟩ := q3 b x hx
      obtain ⟨e1, e2, e3⟩ := hb b (fun z => hab z.symm)
      exact ⟨by rw [hk]; exact p1, fun j => by rw [e1]; exact p2 j, fun j => by rw [e2]; exact p3 j, fun j => by rw [e3]; exact p4 j⟩
  · rw [(hb 14 (fun z => ha z.symm)).1]
    exact q4
theorem g_same {s : AI} {A : AH} {h h2 : MH} {a : Nat} (hh : g_h s A h) (ha : a ≠ 14) (h1 : h2.1 = h.1) (hk : ∀ b, h_k h2 b = h_k h b) (hb : ∀ b, b ≠ a → h_i h2 b = h_i h b ∧ h_l h2 b = h_l h b ∧ h_r h2 b = h_r h b) (hc : ∀ c, b_cell A a = some c → g_c c h2 a) : g_h s A h2 := by
  obtain ⟨q1, q2, q3, q4, q5⟩ := hh
  refine ⟨by unfold h_n at q1 ⊢; rw [h1]; exact q1, by unfold h_z at q2 ⊢; rw [h1]; exact q2, fun b x hx => ?_, ?_, by rw [hk]; exact q5⟩
  · by_cases hab : a = b
    · rw [← hab] at hx ⊢
      exact hc x hx
    · obtain ⟨p1, p2, p3, p4⟩ := q3 b x hx
      obtain ⟨e1, e2, e3⟩ := hb b (fun z => hab z.symm)
      exact ⟨by rw [hk]; exact p1, fun j => by rw [e1]; exact p2 j, fun j => by rw [e2]; exact p3 j, fun j => by rw [e3]; exact p4 j⟩
  · rw [(hb 14 (fun z => ha z.symm)).1]
    exact q4
theorem m_uE {α : Type} (f : Nat → α) (k : Nat) (v : α) : m_u f k v k = v := if_pos rfl
theorem m_uN {α : Type} (f : Nat → α) (k : Nat) (v : α) (j : Nat) (h : j ≠ k) : m_u f k v j = f j := if_neg h
theorem g_si {s : AI} {A : AH} {h : MH} {a : Nat} {o : AC} {k : Nat} {v : AI} {x : Int32} (hh : g_h s A h) (hc : b_cell A a = some o) (ha : a ≠ 14) (hv : g_i v x) : g_h s (b_si A a o k v) (h_si h a k x) := by
  obtain ⟨p1, p2, p3, p4⟩ := hh.2.2.1 a o hc
  have hrow : ∀ j, h_i (h_si h a k x) a j = if k = j then x else h_i h a j := by
    intro j
    show m_u (h_i h) a (m_u (h_i h a) k x) a j = _
    rw [m_uE]
    by_cases e : k = j
    · rw [if_pos e, ← e, m_uE]
    · rw [if_neg e, m_uN _ _ _ _ (fun z => e z.symm)]
  have hbb : ∀ b, b ≠ a → h_i (h_si h a k x) b = h_i h b ∧ h_l (h_si h a k x) b = h_l h b ∧ h_r (h_si h a k x) b = h_r h b := fun b hb => ⟨m_uN _ _ _ _ hb, rfl, rfl⟩
  unfold b_si
  split
  · next e =>
    refine g_same hh ha rfl (fun b => rfl) hbb (fun c hc2 => ?_)
    rw [hc] at hc2
    cases hc2
    refine ⟨p1, fun j => ?_, p3, p4⟩
    rw [hrow]
    by_cases e2 : k = j
    · rw [if_pos e2, ← e2, e]
      exact hv
    · rw [if_neg e2]
      exact p2 j
  · refine g_set hh ha rfl (fun b => rfl) hbb ⟨p1, fun j => ?_, p3, p4⟩
    dsimp only
    rw [hrow, b_rwst]
    by_cases e2 : k = j
    · rw [if_pos e2, if_pos e2]
      exact hv
    · rw [if_neg e2, if_neg e2]
      exact p2 j
theorem g_sl {s : AI} {A : AH} {h : MH} {a : Nat} {o : AC} {k : Nat} {v : AI} {x : Int64} (hh : g_h s A h) (hc : b_cell A a = some o) (ha : a ≠ 14) (hv : g_j v x) : g_h s (b_sl A a o k v) (h_sl h a k x) := by
  obtain ⟨p1, p2, p3, p4⟩ := hh.2.2.1 a o hc
  have hrow : ∀ j, h_l (h_sl h a k x) a j = if k = j then x else h_l h a j := by
    intro j
    show m_u (h_l h) a (m_u (h_l h a) k x) a j = _
    rw [m_uE]
    by_cases e : k = j
    · rw [if_pos e, ← e, m_uE]
    · rw [if_neg e, m_uN _ _ _ _ (fun z => e z.symm)]
  have hbb : ∀ b, b ≠ a → h_i (h_sl h a k x) b = h_i h b ∧ h_l (h_sl h a k x) b = h_l h b ∧ h_r (h_sl h a k x) b = h_r h b := fun b hb => ⟨rfl, m_uN _ _ _ _ hb, rfl⟩
  unfold b_sl
  split
  · next e =>
    refine g_same hh ha rfl (fun b => rfl) hbb (fun c hc2 => ?_)
    rw [hc] at hc2
    cases hc2
    refine ⟨p1, p2, fun j => ?_, p4⟩
    rw [hrow]
    by_cases e2 : k = j
    · rw [if_pos e2, ← e2, e]
      exact hv
    · rw [if_neg e2]
      exact p3 j
  · refine g_set hh ha rfl (fun b => rfl) hbb ⟨p1, p2, fun j => ?_, p4⟩
    dsimp only
    rw [hrow, b_rwst]
    by_cases e2 : k = j
    · rw [if_pos e2, if_pos e2]
      exact hv
    · rw [if_neg e2, if_neg e2]
      exact p3 j
theorem g_sr {s : AI} {A : AH} {h : MH} {a : Nat} {o : AC} {k x : Nat} (hh : g_h s A h) (hc : b_cell A a = some o) (ha : a ≠ 14) : g_h s (b_sr A a o k x) (h_sr h a k x) := by
  obtain ⟨p1, p2, p3, p4⟩ := hh.2.2.1 a o hc
  refine g_set hh ha rfl (fun b => rfl) (fun b hb => ⟨rfl, rfl, m_uN _ _ _ _ hb⟩) ⟨p1, p2, p3, fun j => ?_⟩
  show m_u (h_r h) a (m_u (h_r h a) k x) a j = _
  rw [m_uE, b_grau]
  by_cases e : k = j
  · rw [if_pos e, ← e, m_uE]
  · rw [if_neg e, m_uN _ _ _ _ (fun z => e z.symm)]
    exact p4 j
theorem g_new {s : AI} {A : AH} {h : MH} (k len sz : Nat) (hh : g_h s A h) : g_h s (b_new A k len sz) (h_new h k len sz) := by
  obtain ⟨q1, q2, q3, q4, q5⟩ := hh
  refine ⟨?_, ?_, fun b x hx => ?_, ?_, ?_⟩
  · show h_n h + 1 = A.1.1 + 1
    rw [q1]
  · show h_z h + sz = A.1.2 + sz
    rw [q2]
  · have hx2 : m_lk (b_au A.2 (16 + A.1.1) ((k, len), ((0, 0), []), ((0, 0), []), [])) b = some x := hx
    rw [m_lkau] at hx2
    have e16 : 16 + h.1.1 = 16 + A.1.1 := by unfold h_n at q1; omega
    by_cases hb : 16 + A.1.1 = b
    · rw [if_pos hb] at hx2
      cases hx2
      have eb : b = 16 + h.1.1 := by omega
      refine ⟨?_, fun j => ?_, fun j => ?_, fun j => ?_⟩
      · show m_u (h_k h) (16 + h.1.1) (k, len) b = _
        rw [eb, m_uE]
      · show g_i (0, 0) (m_u (h_i h) (16 + h.1.1) (fun _ => 0) b j)
        rw [eb, m_uE]
        exact ⟨by decide, by decide⟩
      · show g_j (0, 0) (m_u (h_l h) (16 + h.1.1) (fun _ => 0) b j)
        rw [eb, m_uE]
        exact ⟨by decide, by decide⟩
      · show m_u (h_r h) (16 + h.1.1) (fun _ => 0) b j = 0
        rw [eb, m_uE]
    · rw [if_neg hb] at hx2
      have nb : b ≠ 16 + h.1.1 := by omega
      obtain ⟨p1, p2, p3, p4⟩ := q3 b x hx2
      refine ⟨?_, fun j => ?_, fun j => ?_, fun j => ?_⟩
      · show m_u (h_k h) (16 + h.1.1) (k, len) b = _
        rw [m_uN _ _ _ _ nb]
        exact p1
      · show g_i _ (m_u (h_i h) (16 + h.1.1) (fun _ => 0) b j)
        rw [m_uN _ _ _ _ nb]
        exact p2 j
      · show g_j _ (m_u (h_l h) (16 + h.1.1) (fun _ => 0) b j)
        rw [m_uN _ _ _ _ nb]
        exact p3 j
      · show m_u (h_r h) (16 + h.1.1) (fun _ => 0) b j = _
        rw [m_uN _ _ _ _ nb]
        exact p4 j
  · show g_i s (m_u (h_i h) (16 + h.1.1) (fun _ => 0) 14 0 &&& 63)
    rw [m_uN _ _ _ _ (by omega)]
    exact q4
  · show (m_u (h_k h) (16 + h.1.1) (k, len) 14).1 = 20
    rw [m_uN _ _ _ _ (by omega)]
    exact q5
-- stacks and locals
theorem g_catE {s : AI} {a : AV} {v : Value} (h : g_v s a v) : v.category = b_cat a := by
  cases a with
  | inl p =>
    obtain ⟨x, rfl, -⟩ := h
    rfl
  | inr a => cases a with
    | inl u =>
      obtain ⟨x, rfl, -⟩ := h
      rfl
    | inr a => cases a with
      | inl p =>
        obtain ⟨x, rfl, -⟩ := h
        rfl
      | inr n =>
        cases (h : v = .ref n)
        rfl
theorem g_ct {s : AI} : ∀ {a : List AV} {v : List Value}, g_s s a v → m_cat v = b_ct a
  | [], [], _ => rfl
  | a :: r, v :: q, h => by
    have ih := g_ct h.2
    unfold m_cat b_ct at ih ⊢
    rw [List.map_cons, List.map_cons, List.sum_cons, List.sum_cons, ih, g_catE h.1]
  | [], _ :: _, h => h.elim
  | _ :: _, [], h => h.elim
theorem g_len {s : AI} : ∀ {a : List AV} {v : List Value}, g_s s a v → v.length = a.length
  | [], [], _ => rfl
  | a :: r, v :: q, h => by rw [List.length_cons, List.length_cons, g_len h.2]
  | [], _ :: _, h => h.elim
  | _ :: _, [], h => h.elim
theorem g_dr {s : AI} : ∀ (n : Nat) {a : List AV} {v : List Value}, g_s s a v → g_s s (a.drop n) (v.drop n)
  | 0, _, _, h => h
  | n + 1, [], [], h => h
  | n + 1, a :: r, v :: q, h => g_dr n h.2
  | _ + 1, [], _ :: _, h => h.elim
  | _ + 1, _ :: _, [], h => h.elim
theorem g_tk {s : AI} : ∀ (n : Nat) {a : List AV} {v : List Value}, g_s s a v → g_s s (a.take n) (v.take n)
  | 0, _, _, _ => trivial
  | n + 1, [], [], h => h
  | n + 1, a :: r, v :: q, h => ⟨h.1, g_tk n h.2⟩
  | _ + 1, [], _ :: _, h => h.elim
  | _ + 1, _ :: _, [], h => h.elim
theorem g_app {s : AI} : ∀ {a b : List AV} {v w : List Value}, g_s s a v → g_s s b w → g_s s (a ++ b) (v ++ w)
  | [], _, [], _, _, k => k
  | a :: r, _, v :: q, _, h, k => ⟨h.1, g_app h.2 k⟩
  | [], _, _ :: _, _, h, _ => h.elim
  | _ :: _, _, [], _, h, _ => h.elim
theorem g_rv {s : AI} : ∀ {a : List AV} {v : List Value}, g_s s a v → g_s s a.reverse v.reverse
  | [], [], h => h
  | a :: r, v :: q, h => by
    rw [List.reverse_cons, List.reverse_cons]
    exact g_app (g_rv h.2) ⟨h.1, trivial⟩
  | [], _ :: _, h => h.elim
  | _ :: _, [], h => h.elim
theorem g_args {s : AI} : ∀ (n : Nat) {a : List AV} {v : List Value}, g_s s a v → g_l s (b_args n a) (lv_args n v)
  | _, [], [], _ => trivial
  | n, a :: r, v :: q, h => by
    rw [b_args, lv_args, g_catE h.1]
    exact ⟨⟨rfl, h.1⟩, g_args _ h.2⟩
  | _, [], _ :: _, h => h.elim
  | _, _ :: _, [], h => h.elim
theorem g_lk {s : AI} {k : Nat} {a : AV} : ∀ {l : AL} {v : List (Nat × Value)}, g_l s l v → m_lk l k = some a → ∃ x, m_lk v k = some x ∧ g_v s a x
  | [], [], _, e => by cases e
  | p :: r, v :: q, h, e => by
    rw [m_lkc] at e
    rw [m_lkc, h.1.1]
    by_cases hk : p.1 = k
    · rw [if_pos hk] at e ⊢
      cases e
      exact ⟨_, rfl, h.1.2⟩
    · rw [if_neg hk] at e ⊢
      exact g_lk h.2 e
  | [], _ :: _, h, _ => h.elim
  | _ :: _, [], h, _ => h.elim
theorem g_fi {s : AI} {p : Nat × AV → Bool} {p' : Nat × Value → Bool} (hp : ∀ (a : Nat × AV) (v : Nat × Value), v.1 = a.1 → g_v s a.2 v.2 → p' v = p a) : ∀ {l : AL} {v : List (Nat × Value)}, g_l s l v → g_l s (l.filter p) (v.filter p')
  | [], [], _ => trivial
  | a :: r, v :: q, h => by
    have e := hp a v h.1.1 h.1.2
    rw [List.filter_cons, List.filter_cons, e]
    by_cases hk : p a = true
    · rw [if_pos hk, if_pos hk]
      exact ⟨h.1, g_fi hp h.2⟩
    · rw [if_neg hk, if_neg hk]
      exact g_fi hp h.2
  | [], _ :: _, h => h.elim
  | _ :: _, [], h => h.elim
theorem g_s1 {s : AI} {l : AL} {v : List (Nat × Value)} {k : Nat} {a : AV} {x : Value} (h : g_l s l v) (hv : g_v s a x) : g_l s (b_s1 l k a) (m_s1 v k x) :=
  ⟨⟨rfl, hv⟩, g_fi (fun a v e g => by rw [e, g_catE g]) h⟩
theorem g_s2 {s : AI} {l : AL} {v : List (Nat × Value)} {k : Nat} {a : AV} {x : Value} (h : g_l s l v) (hv : g_v s a x) : g_l s (b_s2 l k a) (m_s2 v k x) :=
  ⟨⟨rfl, hv⟩, g_fi (fun a v e g => by rw [e, g_catE g]) h⟩
