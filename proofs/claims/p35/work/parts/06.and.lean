section
-- HOW THE SMALL MACHINE'S HEAP AND THE REAL ONE AGREE
def mv (cst : Nat → Value) (b : Nat) : Value → Value
  | .ref a => if a = 0 then .null else if a < 16 then cst a else .ref (b + (a - 16))
  | v => v
def m_cok (cst : Nat → Value) : Prop := ∀ a, cst a = .null ∨ ∃ r, cst a = .ref r
theorem mv_ref {cst : Nat → Value} {b : Nat} (hc : m_cok cst) (a : Nat) : mv cst b (.ref a) = .null ∨ ∃ r, mv cst b (.ref a) = .ref r := by
  unfold mv
  by_cases h : a = 0
  · simp [h]
  · by_cases h2 : a < 16
    · simp only [h, h2, if_true, if_false]
      exact hc a
    · simp [h, h2]
theorem mv_cat {cst : Nat → Value} {b : Nat} (hc : m_cok cst) (v : Value) : (mv cst b v).category = v.category := by
  cases v with
  | ref a =>
    rcases mv_ref (b := b) hc a with h | ⟨r, h⟩ <;> rw [h] <;> rfl
  | _ => rfl
theorem mv_dyn {cst : Nat → Value} {b a : Nat} (h : 16 ≤ a) : mv cst b (.ref a) = .ref (b + (a - 16)) := by
  unfold mv
  simp [show ¬ a = 0 by omega, show ¬ a < 16 by omega]
theorem mv_0 {cst : Nat → Value} {b : Nat} : mv cst b (.ref 0) = .null := rfl
theorem mv_cst {cst : Nat → Value} {b a : Nat} (h0 : a ≠ 0) (h : a < 16) : mv cst b (.ref a) = cst a := by
  unfold mv
  simp [h0, h]
theorem mv_sum {cst : Nat → Value} {b : Nat} (hc : m_cok cst) (st : List Value) : ((st.map (mv cst b)).map fun v => v.category).sum = m_cat st := by
  unfold m_cat
  congr 1
  rw [List.map_map]
  apply List.map_congr_left
  intro v _
  exact mv_cat hc v
-- locals
def ml (cst : Nat → Value) (b : Nat) (lv : List (Nat × Value)) : List (Nat × Value) := lv.map (fun q => (q.1, mv cst b q.2))
theorem ml_get {cst : Nat → Value} {b nL k : Nat} {lv : List (Nat × Value)} {ls : Array Slot} {v : Value} (hl : lv_has ls nL (ml cst b lv)) (h : m_lk lv k = some v) : ls[k]? = some (.val (mv cst b v)) := by
  unfold m_lk at h
  cases hf : lv.find? (fun e => e.1 == k) with
  | none => rw [hf] at h; cases h
  | some q =>
    rw [hf] at h
    cases h
    have h1 := List.mem_of_find?_eq_some hf
    have h2 := List.find?_some hf
    have h3 : q.1 = k := by simpa using h2
    have := hl.2.2 (q.1, mv cst b q.2) (List.mem_map.mpr ⟨q, h1, rfl⟩)
    rw [h3] at this
    exact this
theorem ml_filter {cst : Nat → Value} {b : Nat} (hc : m_cok cst) (lv : List (Nat × Value)) (p : Nat → Nat → Bool) : (ml cst b lv).filter (fun q => p q.1 q.2.category) = ml cst b (lv.filter (fun q => p q.1 q.2.category)) := by
  unfold ml
  induction lv with
  | nil => rfl
  | cons x t ih =>
    simp only [List.map_cons, List.filter_cons, mv_cat hc]
    cases p x.1 x.2.category
    · simpa using ih
    · simp [ih]
theorem ml_s1 {cst : Nat → Value} {b : Nat} (hc : m_cok cst) (lv : List (Nat × Value)) (i : Nat) (v : Value) : (i, mv cst b v) :: (ml cst b lv).filter (fun q => !(q.1 == i) && !(q.1 + 1 == i && q.2.category == 2)) = ml cst b (m_s1 lv i v) := by
  have h := ml_filter (b := b) hc lv (fun a c => !(a == i) && !(a + 1 == i && c == 2))
  show _ :: _ = _ :: _
  rw [h]
  rfl
theorem ml_s2 {cst : Nat → Value} {b : Nat} (hc : m_cok cst) (lv : List (Nat × Value)) (i : Nat) (v : Value) : (i, mv cst b v) :: (ml cst b lv).filter (fun q => !(q.1 == i) && (!(q.1 == i + 1) && !(q.1 + 1 == i && q.2.category == 2))) = ml cst b (m_s2 lv i v) := by
  have h := ml_filter (b := b) hc lv (fun a c => !(a == i) && (!(a == i + 1) && !(a + 1 == i && c == 2)))
  show _ :: _ = _ :: _
  rw [h]
  rfl
theorem ml_args {cst : Nat → Value} {b : Nat} (hc : m_cok cst) : ∀ (vs : List Value) (i : Nat), lv_args i (vs.map (mv cst b)) = ml cst b (lv_args i vs)
  | [], _ => rfl
  | v :: vs, i => by
    show (i, mv cst b v) :: lv_args _ (vs.map (mv cst b)) = (i, mv cst b v) :: ml cst b (lv_args _ vs)
    rw [mv_cat hc, ml_args hc vs]
-- the cells
def m_fv (cst : Nat → Value) (b : Nat) (h : MH) (a c k : Nat) : Value := match (m_ty c k).1 with
  | 0 => .int (h_i h a k)
  | 1 => .long (h_l h a k)
  | _ => mv cst b (.ref (h_r h a k))
def m_av (cst : Nat → Value) (b : Nat) (h : MH) (a kd j : Nat) : Value := if kd < 25 then .int (h_i h a j) else if kd = 25 then .long (h_l h a j) else mv cst b (.ref (h_r h a j))
def m_okk (k : Nat) : Bool := k == 20 || k == 21 || k == 22 || k == 25 || k == 30 || k == 31 || k == 32 || k == 33
def m_cell (D : va_G) (tA : Nat → ClassId) (cst : Nat → Value) (b : Nat) (h : MH) (a : Nat) (H : Heap) : Prop :=
  (0 < (h_k h a).1 ∧ (h_k h a).1 < 11 ∧ t_OB (b + (a - 16)) (D.1 ((h_k h a).1 - 1)) (m_nf ((h_k h a).1 - 1)) (D.2 ((h_k h a).1 - 1)) H (m_fv cst b h a ((h_k h a).1 - 1))) ∨
  (m_okk (h_k h a).1 = true ∧ H[b + (a - 16)]? = some (arrV (tA (h_k h a).1) (h_k h a).2 (m_av cst b h a (h_k h a).1)) ∧ ((h_k h a).1 = 21 → ∀ j, fits .byte (.int (h_i h a j)) = true))
def m_cst (cst : Nat → Value) (b : Nat) (U : State) (h : MH) (a : Nat) (H : Heap) : Prop := match (h_k h a).1 with
  | 0 => True
  | 20 => ∃ (r : Nat) (cell : Cell), cst a = .ref r ∧ r < b ∧ H[r]? = some cell ∧ U.isArrayOf cell .int ∧ cell.vm ≠ .unknown ∧ (h_k h a).2 ≤ cell.slots.size ∧ cell.slots.size.toInt32 = Int32.ofNat (h_k h a).2 ∧ ∀ j : Nat, j < (h_k h a).2 → cell.slots[j]? = some (.int (h_i h a j))
  | 21 => ∃ (r : Nat) (cell : Cell), cst a = .ref r ∧ r < b ∧ H[r]? = some cell ∧ U.isArrayOf cell .byte ∧ cell.vm ≠ .unknown ∧ (h_k h a).2 ≤ cell.slots.size ∧ cell.slots.size.toInt32 = Int32.ofNat (h_k h a).2 ∧ ∀ j : Nat, j < (h_k h a).2 → cell.slots[j]? = some (.int (h_i h a j))
  | 40 => ∃ r : Nat, cst a = .ref r ∧ r < b ∧ va_O "java/lang/String" r (fun q => b ≤ q) U H ∧ va_OF "java/lang/String" "coder" "B" (.int (h_i h a 1)) r (fun q => b ≤ q) U H ∧ va_OF "java/lang/String" "value" "[B" (mv cst b (.ref (h_r h a 0))) r (fun q => b ≤ q) U H
  | _ => False
def m_stat (cst : Nat → Value) (b : Nat) (U : State) (H : Heap) : Prop := va_Z "java/lang/String" "COMPACT_STRINGS" "Z" (.int 1) (fun q => b ≤ q) U H ∧ va_Z "PastHeaps" "LIMITS" "[I" (cst 1) (fun q => b ≤ q) U H ∧ va_Z "jdk/internal/util/Preconditions" "SIOOBE_FORMATTER" "Ljava/util/function/BiFunction;" (cst 15) (fun q => b ≤ q) U H
def HR (D : va_G) (tA : Nat → ClassId) (cst : Nat → Value) (b : Nat) (U : State) (h : MH) (H : Heap) : Prop :=
  H.size = b + h_n h ∧ (∀ a, 16 ≤ a → a < 16 + h_n h → m_cell D tA cst b h a H) ∧ (∀ a, 16 + h_n h ≤ a → (h_k h a).1 = 0) ∧ (∀ a, a < 16 → m_cst cst b U h a H) ∧ m_stat cst b U H ∧ (h_k h 0).1 = 0
theorem m_cell.congr {D : va_G} {tA : Nat → ClassId} {cst : Nat → Value} {b a : Nat} {h h' : MH} {H H' : Heap} (hk : h_k h' a = h_k h a) (hi : h_i h' a = h_i h a) (hl : h_l h' a = h_l h a) (hr : h_r h' a = h_r h a) (hH : H'[b + (a - 16)]? = H[b + (a - 16)]?) (q : m_cell D tA cst b h a H) : m_cell D tA cst b h' a H' := by
  have e1 : ∀ c k, m_fv cst b h' a c k = m_fv cst b h a c k := fun c k => by unfold m_fv; rw [hi, hl, hr]
  have e2 : ∀ k j, m_av cst b h' a k j = m_av cst b h a k j := fun c k => by unfold m_av; rw [hi, hl, hr]
  rcases q with ⟨q1, q2, q3⟩ | ⟨q1, q2, q3⟩
  · refine Or.inl ⟨by rw [hk]; exact q1, by rw [hk]; exact q2, ?_⟩
    rw [hk]
    exact (q3.kept hH).to (fun k _ => (e1 _ k).symm)
  · refine Or.inr ⟨by rw [hk]; exact q1, ?_, by rw [hk, hi]; exact q3⟩
    rw [hk, hH, q2, show m_av cst b h' a (h_k h a).1 = m_av cst b h a (h_k h a).1 from funext (e2 _)]
theorem m_cst.congr {cst : Nat → Value} {b a : Nat} {U : State} {h h' : MH} {H H' : Heap} (hk : h_k h' a = h_k h a) (hi : h_i h' a = h_i h a) (hr : h_r h' a = h_r h a) (hH : ∀ q, q < b → H'[q]? = H[q]?) (q : m_cst cst b U h a H) : m_cst cst b U h' a H' := by
  unfold m_cst at q ⊢
  rw [hk, hi, hr]
  split at q
  · trivial
  · obtain ⟨r, cell, q1, q2, q3, q4⟩ := q
    exact ⟨r, cell, q1, q2, by rw [hH r q2]; exact q3, q4⟩
  · obtain ⟨r, cell, q1, q2, q3, q4⟩ := q
    exact ⟨r, cell, q1, q2, by rw [hH r q2]; exact q3, q4⟩
  · obtain ⟨r, q1, q2, ⟨cell, g1, g2, g3, g4⟩, ⟨cf, k, i, f, cl, f1, f2, f3, f4, f5, f6⟩, ⟨cf', k', i', f', cl', f1', f2', f3', f4', f5', f6'⟩⟩ := q
    exact ⟨r, q1, q2, ⟨cell, by rw [hH r q2]; exact g1, g2, g3, g4⟩, ⟨cf, k, i, f, cl, f1, f2, by rw [hH r q2]; exact f3, f4, f5, f6⟩, ⟨cf', k', i', f', cl', f1', f2', by rw [hH r q2]; exact f3', f4', f5', f6'⟩⟩
  · exact q
theorem m_stat.kept {cst : Nat → Value} {b : Nat} {U : State} {H H' : Heap} (hH : ∀ q, q < b → H'[q]? = H[q]?) (q : m_stat cst b U H) : m_stat cst b U H' :=
  ⟨q.1.kept (fun a _ h => hH a (Nat.lt_of_not_le h)), q.2.1.kept (fun a _ h => hH a (Nat.lt_of_not_le h)), q.2.2.kept (fun a _ h => hH a (Nat.lt_of_not_le h))⟩
theorem m_cst.moved {cst : Nat → Value} {b a : Nat} {u U : State} {h : MH} {H : Heap} (hvm : u.vm.Alike U.vm) (q : m_cst cst b u h a H) : m_cst cst b U h a H := by
  unfold m_cst at q ⊢
  split at q
  · trivial
  · obtain ⟨r, cell, q1, q2, q3, q4, q5⟩ := q
    exact ⟨r, cell, q1, q2, q3, State.isArrayOf_alike hvm q4, q5⟩
  · obtain ⟨r, cell, q1, q2, q3, q4, q5⟩ := q
    exact ⟨r, cell, q1, q2, q3, State.isArrayOf_alike hvm q4, q5⟩
  · obtain ⟨r, q1, q2, q3, q4, q5⟩ := q
    exact ⟨r, q1, q2, va_O.moved hvm q3, va_OF.moved hvm q4, va_OF.moved hvm q5⟩
  · exact q
theorem HR.moved {D : va_G} {tA : Nat → ClassId} {cst : Nat → Value} {b : Nat} {u U : State} {h : MH} {H : Heap} (hvm : u.vm.Alike U.vm) (q : HR D tA cst b u h H) : HR D tA cst b U h H :=
  ⟨q.1, q.2.1, q.2.2.1, fun a ha => (q.2.2.2.1 a ha).moved hvm, ⟨va_Z.moved hvm q.2.2.2.2.1.1, va_Z.moved hvm q.2.2.2.2.1.2.1, va_Z.moved hvm q.2.2.2.2.1.2.2⟩, q.2.2.2.2.2⟩
-- a cell of the world has changed
theorem HR.upd {D : va_G} {tA : Nat → ClassId} {cst : Nat → Value} {b a : Nat} {U : State} {h h' : MH} {H H' : Heap} (q : HR D tA cst b U h H) (ha : 16 ≤ a) (hn : h_n h' = h_n h) (hk : h_k h' = h_k h) (ho : ∀ x, x ≠ a → h_i h' x = h_i h x ∧ h_l h' x = h_l h x ∧ h_r h' x = h_r h x)
    (hz : H'.size = H.size) (hoH : ∀ x, x ≠ b + (a - 16) → H'[x]? = H[x]?) (hc : m_cell D tA cst b h' a H') : HR D tA cst b U h' H' := by
  obtain ⟨q1, q2, q3, q4, q5, q6⟩ := q
  have hlo : ∀ x, x < b → H'[x]? = H[x]? := fun x hx => hoH x (by omega)
  refine ⟨by rw [hz, hn]; exact q1, fun x h1 h2 => ?_, fun x hx => by rw [hk]; exact q3 x (by rw [← hn]; exact hx), fun x hx => (q4 x hx).congr (by rw [hk]) (ho x (by omega)).1 (ho x (by omega)).2.2 hlo, q5.kept hlo, by rw [hk]; exact q6⟩
  by_cases e : x = a
  · rw [e]; exact hc
  · exact (q2 x h1 (by rw [← hn]; exact h2)).congr (by rw [hk]) (ho x e).1 (ho x e).2.1 (ho x e).2.2 (hoH _ (by omega))
-- cells have come
theorem HR.grow {D : va_G} {tA : Nat → ClassId} {cst : Nat → Value} {b : Nat} {U : State} {h h' : MH} {H H' : Heap} (q : HR D tA cst b U h H) (m : Nat) (hn : h_n h' = h_n h + m)
    (ho : ∀ x, x < 16 + h_n h ∨ 16 + h_n h' ≤ x → h_k h' x = h_k h x) (hv : ∀ x, x < 16 + h_n h → h_i h' x = h_i h x ∧ h_l h' x = h_l h x ∧ h_r h' x = h_r h x)
    (hz : H'.size = H.size + m) (hoH : ∀ x, x < H.size → H'[x]? = H[x]?) (hc : ∀ x, 16 + h_n h ≤ x → x < 16 + h_n h' → m_cell D tA cst b h' x H') : HR D tA cst b U h' H' := by
  obtain ⟨q1, q2, q3, q4, q5, q6⟩ := q
  have hlo : ∀ x, x < b → H'[x]? = H[x]? := fun x hx => hoH x (by omega)
  refine ⟨by omega, fun x h1 h2 => ?_, fun x hx => by rw [ho x (Or.inr hx)]; exact q3 x (by omega), fun x hx => (q4 x hx).congr (ho x (Or.inl (by omega))) (hv x (by omega)).1 (hv x (by omega)).2.2 hlo, q5.kept hlo, by rw [ho 0 (Or.inl (by omega))]; exact q6⟩
  by_cases e : x < 16 + h_n h
  · exact (q2 x h1 e).congr (ho x (Or.inl e)) (hv x e).1 (hv x e).2.1 (hv x e).2.2 (hoH _ (by omega))
  · exact hc x (by omega) h2
-- what is there has its cell
theorem HR.cell {D : va_G} {tA : Nat → ClassId} {cst : Nat → Value} {b a : Nat} {U : State} {h : MH} {H : Heap} (q : HR D tA cst b U h H) (ha : 16 ≤ a) (hk : (h_k h a).1 ≠ 0) : m_cell D tA cst b h a H := by
  rcases Nat.lt_or_ge a (16 + h_n h) with h1 | h1
  · exact q.2.1 a ha h1
  · exact absurd (q.2.2.1 a h1) hk
theorem HR.obj {D : va_G} {tA : Nat → ClassId} {cst : Nat → Value} {b a c : Nat} {U : State} {h : MH} {H : Heap} (q : HR D tA cst b U h H) (hk : (h_k h a).1 = c + 1) (hc : c < 10) : 16 ≤ a ∧ t_OB (b + (a - 16)) (D.1 c) (m_nf c) (D.2 c) H (m_fv cst b h a c) := by
  have ha : 16 ≤ a := by
    rcases Nat.lt_or_ge a 16 with h1 | h1
    · have := q.2.2.2.1 a h1
      unfold m_cst at this
      rw [hk] at this
      match c, hc, this with
      | 0, _, this => exact this.elim
      | 1, _, this => exact this.elim
      | 2, _, this => exact this.elim
      | 3, _, this => exact this.elim
      | 4, _, this => exact this.elim
      | 5, _, this => exact this.elim
      | 6, _, this => exact this.elim
      | 7, _, this => exact this.elim
      | 8, _, this => exact this.elim
      | 9, _, this => exact this.elim
    · exact h1
  refine ⟨ha, ?_⟩
  rcases q.cell ha (by omega) with ⟨q1, q2, q3⟩ | ⟨q1, q2, q3⟩
  · rw [hk] at q3
    exact q3
  · rw [hk] at q1
    match c, hc, q1 with
    | 0, _, q1 => exact absurd q1 (by decide)
    | 1, _, q1 => exact absurd q1 (by decide)
    | 2, _, q1 => exact absurd q1 (by decide)
    | 3, _, q1 => exact absurd q1 (by decide)
    | 4, _, q1 => exact absurd q1 (by decide)
    | 5, _, q1 => exact absurd q1 (by decide)
    | 6, _, q1 => exact absurd q1 (by decide)
    | 7, _, q1 => exact absurd q1 (by decide)
    | 8, _, q1 => exact absurd q1 (by decide)
    | 9, _, q1 => exact absurd q1 (by decide)
theorem HR.arr {D : va_G} {tA : Nat → ClassId} {cst : Nat → Value} {b a : Nat} {U : State} {h : MH} {H : Heap} (q : HR D tA cst b U h H) (ha : 16 ≤ a) (hk : 20 ≤ (h_k h a).1) : m_okk (h_k h a).1 = true ∧ H[b + (a - 16)]? = some (arrV (tA (h_k h a).1) (h_k h a).2 (m_av cst b h a (h_k h a).1)) ∧ ((h_k h a).1 = 21 → ∀ j, fits .byte (.int (h_i h a j)) = true) := by
  rcases q.cell ha (by omega) with ⟨q1, q2, q3⟩ | q
  · omega
  · exact q
-- what the tables say, at any state of the run
def m_nest (w : Cond) : Bool := match w with
  | .fieldLinkNest _ _ _ _ _ _ => true
  | .methodLinkNest _ _ _ _ => true
  | _ => false
abbrev m_tys (tA : Nat → ClassId) : List (ClassId × FieldType) := [(tA 20, .int), (tA 21, .byte), (tA 22, .boolean), (tA 25, .long), (tA 30, .object RX6), (tA 31, .object RX3), (tA 32, .object RX0), (tA 33, .array .int)]
def KS (D : va_G) (tA : Nat → ClassId) (cst : Nat → Value) (U : State) : Prop :=
  va_K D m_cl (m_tys tA) U ∧ (∀ w ∈ lw_tbl, m_nest w = true → va_Nw w U) ∧ va_AO RX6 U ∧ va_AO RX3 U ∧ va_AO RX0 U ∧ (Cond.arrayOver (.array .int)).before #[] U = true ∧ (∀ (k : Nat) (q : String × Nat × String), m_strs[k]? = some q → ∃ r, cst (2 + k) = .ref r ∧ vk_R q.1 q.2.1 q.2.2 r U)
theorem va_Nw.warm {w : Cond} {s U : State} (hn : m_nest w = true) (hW : s.WarmedH U.vm) (h : va_Nw w s) : va_Nw w U := by
  cases w <;> first | exact va_Nw.warmF hW h | exact va_Nw.warmM hW h | exact absurd hn (by simp [m_nest])
theorem KS.warm {D : va_G} {tA : Nat → ClassId} {cst : Nat → Value} {s U : State} (hW : s.WarmedH U.vm) (h : KS D tA cst s) : KS D tA cst U := by
  obtain ⟨h1, h2, h3, h4, h5, h6, h7⟩ := h
  refine ⟨va_K.moved hW.alike h1, fun w hw hn => va_Nw.warm hn hW (h2 w hw hn), va_AO.moved hW.alike h3, va_AO.moved hW.alike h4, va_AO.moved hW.alike h5, over_moved hW.alike h6, fun k q hq => ?_⟩
  obtain ⟨r, g1, g2⟩ := h7 k q hq
  exact ⟨r, g1, g2.warm hW⟩
theorem KS.same {D : va_G} {tA : Nat → ClassId} {cst : Nat → Value} {s U : State} (hv : s.vm = U.vm) (h : KS D tA cst s) : KS D tA cst U := by
  obtain ⟨h1, h2, h3, h4, h5, h6, h7⟩ := h
  have hal : s.vm.Alike U.vm := by rw [hv]; exact Vm.Alike.refl _
  refine ⟨va_K.moved hal h1, fun w hw hn => ?_, va_AO.moved hal h3, va_AO.moved hal h4, va_AO.moved hal h5, over_moved hal h6, fun k q hq => ?_⟩
  · have hon : w.onTables = true := by cases w <;> first | rfl | exact absurd hn (by simp [m_nest])
    exact va_Nw.same hon hv (h2 w hw hn)
  · obtain ⟨r, g1, g2⟩ := h7 k q hq
    exact ⟨r, g1, g2.same hv.symm⟩
def m_tg0 : List Cond := lw_tbl.filter goodWord
end
section
-- THE STEPS OF THE SMALL MACHINE ARE STEPS OF THE REAL ONE
theorem m_lk_mem {α : Type} {l : List (Nat × α)} {k : Nat} {v : α} (h : m_lk l k = some v) : (k, v) ∈ l := by
  unfold m_lk at h
  cases hf : l.find? (fun e => e.1 == k) with
  | none => rw [hf] at h; cases h
  | some q =>
    rw [hf] at h
    cases h
    have h1 := List.mem_of_find?_eq_some hf
    have h2 := List.find?_some hf
    have h3 : q.1 = k := by simpa using h2
    rw [← h3]
    exact h1
theorem m_mem (i : Nat) : m_m i ∈ m_meths := by
  unfold m_m
  rw [List.getD_eq_getElem?_getD]
  cases h : m_meths[i]? with
  | none => exact List.mem_of_getElem? (i := 0) rfl
  | some q => exact List.mem_of_getElem? h
theorem m_dec {i pc : Nat} {e : Instr × Nat} (h : m_at i pc = some e) : decode (m_m i).2.2.1 pc = .ok e := by
  have h1 := List.all_eq_true.mp (m_kk _ (m_mem i)) _ (m_lk_mem h)
  exact of_decide_eq_true h1
theorem m_tgI {w : Cond} (h : w ∈ lw_tbl) (hg : goodWord w = true) : w ∈ m_tg0 := List.mem_filter.mpr ⟨h, hg⟩
theorem u_ws_good {C : String} {T : u_T} {N : Nat} : ∀ w ∈ u_ws C T N, goodWord w = true := by
  intro w hw
  obtain ⟨k, -, rfl⟩ := List.mem_map.mp hw
  unfold u_lay
  split <;> rfl
theorem m_clf (ci : Nat) (hc : ci < 10) : ∃ (q : vw_C), m_cl[ci]? = some q ∧ m_nf ci = q.2.2 ∧ (∀ w ∈ u_ws q.1 q.2.1 q.2.2, w ∈ m_tg0) ∧ (∀ a, a < q.2.2 → ∀ b, b < q.2.2 → a ≠ b → (q.2.1 a).2.1 ≠ (q.2.1 b).2.1) ∧ (∃ ty : Nat → FieldType, (∀ k, k < q.2.2 → parseFieldDescriptor (q.2.1 k).2.2.1 = some (ty k)) ∧ ∀ k, k < q.2.2 → ((m_ty ci k).1 = 0 → ty k = .int) ∧ ((m_ty ci k).1 = 1 → ty k = .long) ∧ ((m_ty ci k).1 ≠ 0 → (m_ty ci k).1 ≠ 1 → m_rr (some (ty k)) = true)) ∧ (∀ k, k < q.2.2 → (q.2.1 k).2.2.2 = (m_ty ci k).2) ∧ Cond.instantiable q.1 q.2.2 ∈ m_tg0 ∧ Cond.initialized q.1 ∈ m_tg0 ∧ (∀ k, k < q.2.2 → (q.2.1 k).1 = q.1) := by
  obtain ⟨q, ty, h1, h2, h3, h4, h5, h6, h7, h8⟩ := m_cfs ci hc
  exact ⟨q, h1, h2, fun w hw => m_tgI (h3 w hw) (u_ws_good w hw), h4, ⟨ty, h5, fun k hk => (h6 k hk).2.2⟩, fun k hk => (h6 k hk).2.1, m_tgI h7 rfl, m_tgI h8 rfl, fun k hk => (h6 k hk).1⟩
def SC (p : Program) (s : State) (m : MethodId) (args : Array Value) (meth : Method) (c : Code) (R : Room) (i : Nat) (D : va_G) (tA : Nat → ClassId) (cst : Nat → Value) (b : Nat) : Prop :=
  p.tables.exec = Jvm.exec ∧ c.code = (m_m i).2.2.1 ∧ c.maxLocals = m_lc i ∧ s.vm.findClass (m_m i).2.1.cls = some m.cls ∧ (∀ w ∈ m_tg0, w.before args s = true) ∧ meth.locks = false ∧ (m_kind i = 2 → meth.name = "<init>") ∧ m_fr i ≤ R.frames ∧ m_lo i ≤ R.locals ∧ KS D tA cst s ∧ m_cok cst ∧ meth.sig.returnType = m_rt i
section SIM
variable {p : Program} {l : Launch} {e : Env} {R : Room} {s : State} {m : MethodId} {args : Array Value} {below : List Frame} {meth : Method} {c : Code} {Q : State → Prop} {i : Nat} {D : va_G} {tA : Nat → ClassId} {cst : Nat → Value} {b : Nat}
variable {H : Heap} {locs : List Loc} {cells slots : Nat} {pc : Nat} {ls : Array Slot} {lv : List (Nat × Value)} {st : List Value} {h : MH} {S : MS}
-- what a step that changes no heap owes
def PS (p : Program) (l : Launch) (e : Env) (R : Room) (s : State) (m : MethodId) (args : Array Value) (below : List Frame) (meth : Method) (c : Code) (H : Heap) (locs : List Loc) (cells slots : Nat) (Q : State → Prop) (i : Nat) (cst : Nat → Value) (b : Nat) (h : MH) (pc : Nat) (ls : Array Slot) (st : List Value) (S : MS) : Prop :=
  S.2.2.2 = h ∧ ((∀ ls', lv_has ls' (m_lc i) (ml cst b S.2.1) → W p l e R s m args below meth c H locs cells slots Q (F0 m S.1 ls' (S.2.2.1.map (mv cst b)))) → W p l e R s m args below meth c H locs cells slots Q (F0 m pc ls (st.map (mv cst b))))
theorem x_push (hl : lv_has ls (m_lc i) (ml cst b lv)) {pc' : Nat} {v : Value} (row : W p l e R s m args below meth c H locs cells slots Q (F0 m pc' ls (mv cst b v :: st.map (mv cst b))) → W p l e R s m args below meth c H locs cells slots Q (F0 m pc ls (st.map (mv cst b)))) (hs : m_go pc' lv (v :: st) h = some (.inl S)) : PS p l e R s m args below meth c H locs cells slots Q i cst b h pc ls st S := by
  cases hs
  exact ⟨rfl, fun k => row (k ls hl)⟩
theorem x_ii (hl : lv_has ls (m_lc i) (ml cst b lv)) {f : Int32 → Int32 → Int32} (row : ∀ x y rest, W p l e R s m args below meth c H locs cells slots Q (F0 m (pc + 1) ls (.int (f x y) :: rest)) → W p l e R s m args below meth c H locs cells slots Q (F0 m pc ls (.int y :: .int x :: rest))) (hs : e_ii f pc lv st h = some (.inl S)) : PS p l e R s m args below meth c H locs cells slots Q i cst b h pc ls st S := by
  unfold e_ii at hs
  split at hs
  · cases hs
    exact ⟨rfl, fun k => row _ _ _ (k ls hl)⟩
  · cases hs
theorem x_ll (hl : lv_has ls (m_lc i) (ml cst b lv)) {f : Int64 → Int64 → Int64} (row : ∀ x y rest, W p l e R s m args below meth c H locs cells slots Q (F0 m (pc + 1) ls (.long (f x y) :: rest)) → W p l e R s m args below meth c H locs cells slots Q (F0 m pc ls (.long y :: .long x :: rest))) (hs : e_ll f pc lv st h = some (.inl S)) : PS p l e R s m args below meth c H locs cells slots Q i cst b h pc ls st S := by
  unfold e_ll at hs
  split at hs
  · cases hs
    exact ⟨rfl, fun k => row _ _ _ (k ls hl)⟩
  · cases hs
theorem x_li (hl : lv_has ls (m_lc i) (ml cst b lv)) {f : Int64 → Int32 → Int64} (row : ∀ x y rest, W p l e R s m args below meth c H locs cells slots Q (F0 m (pc + 1) ls (.long (f x y) :: rest)) → W p l e R s m args below meth c H locs cells slots Q (F0 m pc ls (.int y :: .long x :: rest))) (hs : e_li f pc lv st h = some (.inl S)) : PS p l e R s m args below meth c H locs cells slots Q i cst b h pc ls st S := by
  unfold e_li at hs
  split at hs
  · cases hs
    exact ⟨rfl, fun k => row _ _ _ (k ls hl)⟩
  · cases hs
theorem x_dv (hl : lv_has ls (m_lc i) (ml cst b lv)) {f : Int32 → Int32 → Int32} (row : ∀ x y rest, ¬ y = 0 → W p l e R s m args below meth c H locs cells slots Q (F0 m (pc + 1) ls (.int (f x y) :: rest)) → W p l e R s m args below meth c H locs cells slots Q (F0 m pc ls (.int y :: .int x :: rest))) (hs : e_dv f pc lv st h = some (.inl S)) : PS p l e R s m args below meth c H locs cells slots Q i cst b h pc ls st S := by
  unfold e_dv at hs
  split at hs
  · split at hs
    · cases hs
    · next hy =>
      cases hs
      exact ⟨rfl, fun k => row _ _ _ hy (k ls hl)⟩
  · cases hs
theorem x_i (hl : lv_has ls (m_lc i) (ml cst b lv)) {f : Int32 → Value} (row : ∀ x rest, W p l e R s m args below meth c H locs cells slots Q (F0 m (pc + 1) ls (mv cst b (f x) :: rest)) → W p l e R s m args below meth c H locs cells slots Q (F0 m pc ls (.int x :: rest))) (hs : e_i f pc lv st h = some (.inl S)) : PS p l e R s m args below meth c H locs cells slots Q i cst b h pc ls st S := by
  unfold e_i at hs
  split at hs
  · cases hs
    exact ⟨rfl, fun k => row _ _ (k ls hl)⟩
  · cases hs
theorem x_l (hl : lv_has ls (m_lc i) (ml cst b lv)) {f : Int64 → Value} (row : ∀ x rest, W p l e R s m args below meth c H locs cells slots Q (F0 m (pc + 1) ls (mv cst b (f x) :: rest)) → W p l e R s m args below meth c H locs cells slots Q (F0 m pc ls (.long x :: rest))) (hs : e_l f pc lv st h = some (.inl S)) : PS p l e R s m args below meth c H locs cells slots Q i cst b h pc ls st S := by
  unfold e_l at hs
  split at hs
  · cases hs
    exact ⟨rfl, fun k => row _ _ (k ls hl)⟩
  · cases hs
theorem x_ild (hl : lv_has ls (m_lc i) (ml cst b lv)) {k pc' : Nat} (row : ∀ x, ls[k]? = some (.val (.int x)) → W p l e R s m args below meth c H locs cells slots Q (F0 m pc' ls (.int x :: st.map (mv cst b))) → W p l e R s m args below meth c H locs cells slots Q (F0 m pc ls (st.map (mv cst b)))) (hs : e_ild k pc' lv st h = some (.inl S)) : PS p l e R s m args below meth c H locs cells slots Q i cst b h pc ls st S := by
  unfold e_ild at hs
  split at hs
  · next x hx =>
    cases hs
    exact ⟨rfl, fun k => row x (ml_get hl hx) (k ls hl)⟩
  · cases hs
theorem x_lld (hl : lv_has ls (m_lc i) (ml cst b lv)) {k pc' : Nat} (row : ∀ x, ls[k]? = some (.val (.long x)) → W p l e R s m args below meth c H locs cells slots Q (F0 m pc' ls (.long x :: st.map (mv cst b))) → W p l e R s m args below meth c H locs cells slots Q (F0 m pc ls (st.map (mv cst b)))) (hs : e_lld k pc' lv st h = some (.inl S)) : PS p l e R s m args below meth c H locs cells slots Q i cst b h pc ls st S := by
  unfold e_lld at hs
  split at hs
  · next x hx =>
    cases hs
    exact ⟨rfl, fun k => row x (ml_get hl hx) (k ls hl)⟩
  · cases hs
theorem x_ald (hc : m_cok cst) (hl : lv_has ls (m_lc i) (ml cst b lv)) {k pc' : Nat} (row : ∀ x : Nat, ls[k]? = some (.val (.ref x)) → W p l e R s m args below meth c H locs cells slots Q (F0 m pc' ls (.ref x :: st.map (mv cst b))) → W p l e R s m args below meth c H locs cells slots Q (F0 m pc ls (st.map (mv cst b)))) (rowN : ls[k]? = some (.val .null) → W p l e R s m args below meth c H locs cells slots Q (F0 m pc' ls (.null :: st.map (mv cst b))) → W p l e R s m args below meth c H locs cells slots Q (F0 m pc ls (st.map (mv cst b)))) (hs : e_ald k pc' lv st h = some (.inl S)) : PS p l e R s m args below meth c H locs cells slots Q i cst b h pc ls st S := by
  unfold e_ald at hs
  split at hs
  · next x hx =>
    cases hs
    refine ⟨rfl, fun k9 => ?_⟩
    have h1 := ml_get hl hx
    have h2 : W p l e R s m args below meth c H locs cells slots Q (F0 m pc' ls (mv cst b (.ref x) :: st.map (mv cst b))) := k9 ls hl
    rcases mv_ref (b := b) hc x with h3 | ⟨r, h3⟩
    · rw [h3] at h1 h2
      exact rowN h1 h2
    · rw [h3] at h1 h2
      exact row r h1 h2
  · cases hs
theorem x_ist (hc : m_cok cst) (hl : lv_has ls (m_lc i) (ml cst b lv)) {k pc' : Nat} (row : ∀ (x : Int32) (rest : List Value), k < m_lc i → (∀ ls', lv_has ls' (m_lc i) (ml cst b (m_s1 lv k (.int x))) → W p l e R s m args below meth c H locs cells slots Q (F0 m pc' ls' rest)) → W p l e R s m args below meth c H locs cells slots Q (F0 m pc ls (.int x :: rest))) (hs : e_ist (m_lc i) k pc' lv st h = some (.inl S)) : PS p l e R s m args below meth c H locs cells slots Q i cst b h pc ls st S := by
  unfold e_ist at hs
  split at hs
  · split at hs
    · next hk =>
      cases hs
      exact ⟨rfl, fun k9 => row _ _ hk k9⟩
    · cases hs
  · cases hs
theorem x_lst (hc : m_cok cst) (hl : lv_has ls (m_lc i) (ml cst b lv)) {k pc' : Nat} (row : ∀ (x : Int64) (rest : List Value), k + 1 < m_lc i → (∀ ls', lv_has ls' (m_lc i) (ml cst b (m_s2 lv k (.long x))) → W p l e R s m args below meth c H locs cells slots Q (F0 m pc' ls' rest)) → W p l e R s m args below meth c H locs cells slots Q (F0 m pc ls (.long x :: rest))) (hs : e_lst (m_lc i) k pc' lv st h = some (.inl S)) : PS p l e R s m args below meth c H locs cells slots Q i cst b h pc ls st S := by
  unfold e_lst at hs
  split at hs
  · split at hs
    · next hk =>
      cases hs
      exact ⟨rfl, fun k9 => row _ _ hk k9⟩
    · cases hs
  · cases hs
theorem x_ast (hc : m_cok cst) (hl : lv_has ls (m_lc i) (ml cst b lv)) {k pc' : Nat} (row : ∀ (x : Nat) (rest : List Value) (lv' : List (Nat × Value)), k < m_lc i → (k, Value.ref x) :: (ml cst b lv).filter (fun q => !(q.1 == k) && !(q.1 + 1 == k && q.2.category == 2)) = lv' → (∀ ls', lv_has ls' (m_lc i) lv' → W p l e R s m args below meth c H locs cells slots Q (F0 m pc' ls' rest)) → W p l e R s m args below meth c H locs cells slots Q (F0 m pc ls (.ref x :: rest))) (rowN : ∀ (rest : List Value) (lv' : List (Nat × Value)), k < m_lc i → (k, Value.null) :: (ml cst b lv).filter (fun q => !(q.1 == k) && !(q.1 + 1 == k && q.2.category == 2)) = lv' → (∀ ls', lv_has ls' (m_lc i) lv' → W p l e R s m args below meth c H locs cells slots Q (F0 m pc' ls' rest)) → W p l e R s m args below meth c H locs cells slots Q (F0 m pc ls (.null :: rest))) (hs : e_ast (m_lc i) k pc' lv st h = some (.inl S)) : PS p l e R s m args below meth c H locs cells slots Q i cst b h pc ls st S := by
  unfold e_ast at hs
  split at hs
  · next x r =>
    split at hs
    · next hk =>
      cases hs
      refine ⟨rfl, fun k9 => ?_⟩
      have h1 := ml_s1 (b := b) hc lv k (.ref x)
      show W p l e R s m args below meth c H locs cells slots Q (F0 m pc ls (mv cst b (.ref x) :: r.map (mv cst b)))
      rcases mv_ref (b := b) hc x with h3 | ⟨y, h3⟩
      · rw [h3] at h1 ⊢
        exact rowN _ _ hk h1 k9
      · rw [h3] at h1 ⊢
        exact row y _ _ hk h1 k9
    · cases hs
  · cases hs
theorem x_inc (hc : m_cok cst) (hl : lv_has ls (m_lc i) (ml cst b lv)) {k : Nat} {z : Int} (row : ∀ (x : Int32) (j : Nat), (ml cst b lv)[j]? = some (k, .int x) → k < m_lc i → (∀ ls', lv_has ls' (m_lc i) (ml cst b (m_s1 lv k (.int (x + Int32.ofInt z)))) → W p l e R s m args below meth c H locs cells slots Q (F0 m (pc + 3) ls' (st.map (mv cst b)))) → W p l e R s m args below meth c H locs cells slots Q (F0 m pc ls (st.map (mv cst b)))) (hs : e_inc (m_lc i) k z pc lv st h = some (.inl S)) : PS p l e R s m args below meth c H locs cells slots Q i cst b h pc ls st S := by
  unfold e_inc at hs
  split at hs
  · next x hx =>
    split at hs
    · next hk =>
      cases hs
      have h1 : (k, mv cst b (.int x)) ∈ ml cst b lv := List.mem_map.mpr ⟨_, m_lk_mem hx, rfl⟩
      obtain ⟨j, hj⟩ := List.getElem?_of_mem h1
      exact ⟨rfl, fun k9 => row x j hj hk k9⟩
    · cases hs
  · cases hs
theorem x_tg {off : Int} {r : List Value} (hl : lv_has ls (m_lc i) (ml cst b lv)) (row : ∀ tgt : Nat, (pc : Int) + off = (tgt : Int) → W p l e R s m args below meth c H locs cells slots Q (F0 m tgt ls (r.map (mv cst b))) → W p l e R s m args below meth c H locs cells slots Q (F0 m pc ls (st.map (mv cst b)))) (hs : m_tg pc off lv r h = some (.inl S)) : PS p l e R s m args below meth c H locs cells slots Q i cst b h pc ls st S := by
  unfold m_tg at hs
  split at hs
  · next h0 =>
    cases hs
    exact ⟨rfl, fun k => row _ (Int.toNat_of_nonneg h0).symm (k ls hl)⟩
  · cases hs
theorem x_br {off : Int} {r : List Value} {A B : Prop} {t : Bool} (hl : lv_has ls (m_lc i) (ml cst b lv)) (ht : t = true → A) (hf : t = false → B) (row : ∀ tgt : Nat, (pc : Int) + off = (tgt : Int) → A → W p l e R s m args below meth c H locs cells slots Q (F0 m tgt ls (r.map (mv cst b))) → W p l e R s m args below meth c H locs cells slots Q (F0 m pc ls (st.map (mv cst b)))) (rowF : ∀ tgt : Nat, (pc : Int) + off = (tgt : Int) → B → W p l e R s m args below meth c H locs cells slots Q (F0 m (pc + 3) ls (r.map (mv cst b))) → W p l e R s m args below meth c H locs cells slots Q (F0 m pc ls (st.map (mv cst b)))) (hs : m_br t pc off lv r h = some (.inl S)) : PS p l e R s m args below meth c H locs cells slots Q i cst b h pc ls st S := by
  unfold m_br at hs
  split at hs
  · next h0 =>
    split at hs
    · cases hs
      exact ⟨rfl, fun k => row _ (Int.toNat_of_nonneg h0).symm (ht rfl) (k ls hl)⟩
    · cases hs
      exact ⟨rfl, fun k => rowF _ (Int.toNat_of_nonneg h0).symm (hf rfl) (k ls hl)⟩
  · cases hs
theorem y_iconst (C : SC p s m args meth c R i D tA cst b) (hl : lv_has ls (m_lc i) (ml cst b lv)) {len : Nat} {n : Int} (hd : decode (m_m i).2.2.1 pc = .ok (.iconst n, len)) (hn : len = 1) (hs : m_ex i pc (.iconst n) lv st h = some (.inl S)) : PS p l e R s m args below meth c H locs cells slots Q i cst b h pc ls st S := by
  obtain ⟨hx, hb, hml, hown, hts, hlocks, hini, hfr, hlo9, hks, hc, hr⟩ := C
  subst hn
  exact x_push hl (fun k => lv_iconst hx hb hd rfl k) hs
theorem y_bipush (C : SC p s m args meth c R i D tA cst b) (hl : lv_has ls (m_lc i) (ml cst b lv)) {len : Nat} {n : Int} (hd : decode (m_m i).2.2.1 pc = .ok (.bipush n, len)) (hn : len = 2) (hs : m_ex i pc (.bipush n) lv st h = some (.inl S)) : PS p l e R s m args below meth c H locs cells slots Q i cst b h pc ls st S := by
  obtain ⟨hx, hb, hml, hown, hts, hlocks, hini, hfr, hlo9, hks, hc, hr⟩ := C
  subst hn
  exact x_push hl (fun k => lv_bipush hx hb hd rfl k) hs
theorem y_sipush (C : SC p s m args meth c R i D tA cst b) (hl : lv_has ls (m_lc i) (ml cst b lv)) {len : Nat} {n : Int} (hd : decode (m_m i).2.2.1 pc = .ok (.sipush n, len)) (hn : len = 3) (hs : m_ex i pc (.sipush n) lv st h = some (.inl S)) : PS p l e R s m args below meth c H locs cells slots Q i cst b h pc ls st S := by
  obtain ⟨hx, hb, hml, hown, hts, hlocks, hini, hfr, hlo9, hks, hc, hr⟩ := C
  subst hn
  exact x_push hl (fun k => lv_sipush hx hb hd rfl k) hs
theorem y_lconst (C : SC p s m args meth c R i D tA cst b) (hl : lv_has ls (m_lc i) (ml cst b lv)) {len : Nat} {n : Fin 2} (hd : decode (m_m i).2.2.1 pc = .ok (.lconst n, len)) (hn : len = 1) (hs : m_ex i pc (.lconst n) lv st h = some (.inl S)) : PS p l e R s m args below meth c H locs cells slots Q i cst b h pc ls st S := by
  obtain ⟨hx, hb, hml, hown, hts, hlocks, hini, hfr, hlo9, hks, hc, hr⟩ := C
  subst hn
  exact x_push hl (fun k => lv_lconst hx hb hd rfl k) hs
theorem y_aconst (C : SC p s m args meth c R i D tA cst b) (hl : lv_has ls (m_lc i) (ml cst b lv)) {len : Nat}  (hd : decode (m_m i).2.2.1 pc = .ok (.aconst_null, len)) (hn : len = 1) (hs : m_ex i pc (.aconst_null) lv st h = some (.inl S)) : PS p l e R s m args below meth c H locs cells slots Q i cst b h pc ls st S := by
  obtain ⟨hx, hb, hml, hown, hts, hlocks, hini, hfr, hlo9, hks, hc, hr⟩ := C
  subst hn
  exact x_push hl (fun k => lv_null hx hb hd k) hs
theorem y_iadd (C : SC p s m args meth c R i D tA cst b) (hl : lv_has ls (m_lc i) (ml cst b lv)) {len : Nat}  (hd : decode (m_m i).2.2.1 pc = .ok (.iadd, len)) (hn : len = 1) (hs : m_ex i pc (.iadd) lv st h = some (.inl S)) : PS p l e R s m args below meth c H locs cells slots Q i cst b h pc ls st S := by
  obtain ⟨hx, hb, hml, hown, hts, hlocks, hini, hfr, hlo9, hks, hc, hr⟩ := C
  subst hn
  exact x_ii hl (fun x y r k => lv_iadd hx hb hd k) hs
theorem y_isub (C : SC p s m args meth c R i D tA cst b) (hl : lv_has ls (m_lc i) (ml cst b lv)) {len : Nat}  (hd : decode (m_m i).2.2.1 pc = .ok (.isub, len)) (hn : len = 1) (hs : m_ex i pc (.isub) lv st h = some (.inl S)) : PS p l e R s m args below meth c H locs cells slots Q i cst b h pc ls st S := by
  obtain ⟨hx, hb, hml, hown, hts, hlocks, hini, hfr, hlo9, hks, hc, hr⟩ := C
  subst hn
  exact x_ii hl (fun x y r k => lv_isub hx hb hd k) hs
theorem y_imul (C : SC p s m args meth c R i D tA cst b) (hl : lv_has ls (m_lc i) (ml cst b lv)) {len : Nat}  (hd : decode (m_m i).2.2.1 pc = .ok (.imul, len)) (hn : len = 1) (hs : m_ex i pc (.imul) lv st h = some (.inl S)) : PS p l e R s m args below meth c H locs cells slots Q i cst b h pc ls st S := by
  obtain ⟨hx, hb, hml, hown, hts, hlocks, hini, hfr, hlo9, hks, hc, hr⟩ := C
  subst hn
  exact x_ii hl (fun x y r k => lv_imul hx hb hd k) hs
theorem y_iand (C : SC p s m args meth c R i D tA cst b) (hl : lv_has ls (m_lc i) (ml cst b lv)) {len : Nat}  (hd : decode (m_m i).2.2.1 pc = .ok (.iand, len)) (hn : len = 1) (hs : m_ex i pc (.iand) lv st h = some (.inl S)) : PS p l e R s m args below meth c H locs cells slots Q i cst b h pc ls st S := by
  obtain ⟨hx, hb, hml, hown, hts, hlocks, hini, hfr, hlo9, hks, hc, hr⟩ := C
  subst hn
  exact x_ii hl (fun x y r k => lv_iand hx hb hd k) hs
theorem y_ior (C : SC p s m args meth c R i D tA cst b) (hl : lv_has ls (m_lc i) (ml cst b lv)) {len : Nat}  (hd : decode (m_m i).2.2.1 pc = .ok (.ior, len)) (hn : len = 1) (hs : m_ex i pc (.ior) lv st h = some (.inl S)) : PS p l e R s m args below meth c H locs cells slots Q i cst b h pc ls st S := by
  obtain ⟨hx, hb, hml, hown, hts, hlocks, hini, hfr, hlo9, hks, hc, hr⟩ := C
  subst hn
  exact x_ii hl (fun x y r k => lv_ior hx hb hd k) hs
theorem y_ixor (C : SC p s m args meth c R i D tA cst b) (hl : lv_has ls (m_lc i) (ml cst b lv)) {len : Nat}  (hd : decode (m_m i).2.2.1 pc = .ok (.ixor, len)) (hn : len = 1) (hs : m_ex i pc (.ixor) lv st h = some (.inl S)) : PS p l e R s m args below meth c H locs cells slots Q i cst b h pc ls st S := by
  obtain ⟨hx, hb, hml, hown, hts, hlocks, hini, hfr, hlo9, hks, hc, hr⟩ := C
  subst hn
  exact x_ii hl (fun x y r k => lv_ixor hx hb hd k) hs
theorem y_ishl (C : SC p s m args meth c R i D tA cst b) (hl : lv_has ls (m_lc i) (ml cst b lv)) {len : Nat}  (hd : decode (m_m i).2.2.1 pc = .ok (.ishl, len)) (hn : len = 1) (hs : m_ex i pc (.ishl) lv st h = some (.inl S)) : PS p l e R s m args below meth c H locs cells slots Q i cst b h pc ls st S := by
  obtain ⟨hx, hb, hml, hown, hts, hlocks, hini, hfr, hlo9, hks, hc, hr⟩ := C
  subst hn
  exact x_ii hl (fun x y r k => lv_ishl hx hb hd k) hs
theorem y_ishr (C : SC p s m args meth c R i D tA cst b) (hl : lv_has ls (m_lc i) (ml cst b lv)) {len : Nat}  (hd : decode (m_m i).2.2.1 pc = .ok (.ishr, len)) (hn : len = 1) (hs : m_ex i pc (.ishr) lv st h = some (.inl S)) : PS p l e R s m args below meth c H locs cells slots Q i cst b h pc ls st S := by
  obtain ⟨hx, hb, hml, hown, hts, hlocks, hini, hfr, hlo9, hks, hc, hr⟩ := C
  subst hn
  exact x_ii hl (fun x y r k => lv_ishr hx hb hd k) hs
theorem y_iushr (C : SC p s m args meth c R i D tA cst b) (hl : lv_has ls (m_lc i) (ml cst b lv)) {len : Nat}  (hd : decode (m_m i).2.2.1 pc = .ok (.iushr, len)) (hn : len = 1) (hs : m_ex i pc (.iushr) lv st h = some (.inl S)) : PS p l e R s m args below meth c H locs cells slots Q i cst b h pc ls st S := by
  obtain ⟨hx, hb, hml, hown, hts, hlocks, hini, hfr, hlo9, hks, hc, hr⟩ := C
  subst hn
  exact x_ii hl (fun x y r k => lv_iushr hx hb hd rfl k) hs
theorem y_ladd (C : SC p s m args meth c R i D tA cst b) (hl : lv_has ls (m_lc i) (ml cst b lv)) {len : Nat}  (hd : decode (m_m i).2.2.1 pc = .ok (.ladd, len)) (hn : len = 1) (hs : m_ex i pc (.ladd) lv st h = some (.inl S)) : PS p l e R s m args below meth c H locs cells slots Q i cst b h pc ls st S := by
  obtain ⟨hx, hb, hml, hown, hts, hlocks, hini, hfr, hlo9, hks, hc, hr⟩ := C
  subst hn
  exact x_ll hl (fun x y r k => lv_ladd hx hb hd k) hs
theorem y_lsub (C : SC p s m args meth c R i D tA cst b) (hl : lv_has ls (m_lc i) (ml cst b lv)) {len : Nat}  (hd : decode (m_m i).2.2.1 pc = .ok (.lsub, len)) (hn : len = 1) (hs : m_ex i pc (.lsub) lv st h = some (.inl S)) : PS p l e R s m args below meth c H locs cells slots Q i cst b h pc ls st S := by
  obtain ⟨hx, hb, hml, hown, hts, hlocks, hini, hfr, hlo9, hks, hc, hr⟩ := C
  subst hn
  exact x_ll hl (fun x y r k => lv_lsub hx hb hd k) hs
theorem y_land (C : SC p s m args meth c R i D tA cst b) (hl : lv_has ls (m_lc i) (ml cst b lv)) {len : Nat}  (hd : decode (m_m i).2.2.1 pc = .ok (.land, len)) (hn : len = 1) (hs : m_ex i pc (.land) lv st h = some (.inl S)) : PS p l e R s m args below meth c H locs cells slots Q i cst b h pc ls st S := by
  obtain ⟨hx, hb, hml, hown, hts, hlocks, hini, hfr, hlo9, hks, hc, hr⟩ := C
  subst hn
  exact x_ll hl (fun x y r k => lv_land hx hb hd k) hs
theorem y_lor (C : SC p s m args meth c R i D tA cst b) (hl : lv_has ls (m_lc i) (ml cst b lv)) {len : Nat}  (hd : decode (m_m i).2.2.1 pc = .ok (.lor, len)) (hn : len = 1) (hs : m_ex i pc (.lor) lv st h = some (.inl S)) : PS p l e R s m args below meth c H locs cells slots Q i cst b h pc ls st S := by
  obtain ⟨hx, hb, hml, hown, hts, hlocks, hini, hfr, hlo9, hks, hc, hr⟩ := C
  subst hn
  exact x_ll hl (fun x y r k => lv_lor hx hb hd k) hs
theorem y_lxor (C : SC p s m args meth c R i D tA cst b) (hl : lv_has ls (m_lc i) (ml cst b lv)) {len : Nat}  (hd : decode (m_m i).2.2.1 pc = .ok (.lxor, len)) (hn : len = 1) (hs : m_ex i pc (.lxor) lv st h = some (.inl S)) : PS p l e R s m args below meth c H locs cells slots Q i cst b h pc ls st S := by
  obtain ⟨hx, hb, hml, hown, hts, hlocks, hini, hfr, hlo9, hks, hc, hr⟩ := C
  subst hn
  exact x_ll hl (fun x y r k => lv_lxor hx hb hd k) hs
theorem y_lshl (C : SC p s m args meth c R i D tA cst b) (hl : lv_has ls (m_lc i) (ml cst b lv)) {len : Nat}  (hd : decode (m_m i).2.2.1 pc = .ok (.lshl, len)) (hn : len = 1) (hs : m_ex i pc (.lshl) lv st h = some (.inl S)) : PS p l e R s m args below meth c H locs cells slots Q i cst b h pc ls st S := by
  obtain ⟨hx, hb, hml, hown, hts, hlocks, hini, hfr, hlo9, hks, hc, hr⟩ := C
  subst hn
  exact x_li hl (fun x y r k => lv_lshl hx hb hd rfl k) hs
theorem y_lshr (C : SC p s m args meth c R i D tA cst b) (hl : lv_has ls (m_lc i) (ml cst b lv)) {len : Nat}  (hd : decode (m_m i).2.2.1 pc = .ok (.lshr, len)) (hn : len = 1) (hs : m_ex i pc (.lshr) lv st h = some (.inl S)) : PS p l e R s m args below meth c H locs cells slots Q i cst b h pc ls st S := by
  obtain ⟨hx, hb, hml, hown, hts, hlocks, hini, hfr, hlo9, hks, hc, hr⟩ := C
  subst hn
  exact x_li hl (fun x y r k => lv_lshr hx hb hd rfl k) hs
theorem y_lushr (C : SC p s m args meth c R i D tA cst b) (hl : lv_has ls (m_lc i) (ml cst b lv)) {len : Nat}  (hd : decode (m_m i).2.2.1 pc = .ok (.lushr, len)) (hn : len = 1) (hs : m_ex i pc (.lushr) lv st h = some (.inl S)) : PS p l e R s m args below meth c H locs cells slots Q i cst b h pc ls st S := by
  obtain ⟨hx, hb, hml, hown, hts, hlocks, hini, hfr, hlo9, hks, hc, hr⟩ := C
  subst hn
  exact x_li hl (fun x y r k => lv_lushr hx hb hd rfl k) hs
theorem y_idiv (C : SC p s m args meth c R i D tA cst b) (hl : lv_has ls (m_lc i) (ml cst b lv)) {len : Nat}  (hd : decode (m_m i).2.2.1 pc = .ok (.idiv, len)) (hn : len = 1) (hs : m_ex i pc (.idiv) lv st h = some (.inl S)) : PS p l e R s m args below meth c H locs cells slots Q i cst b h pc ls st S := by
  obtain ⟨hx, hb, hml, hown, hts, hlocks, hini, hfr, hlo9, hks, hc, hr⟩ := C
  subst hn
  exact x_dv hl (fun x y r hy k => lv_idiv hx hb hd hy k) hs
theorem y_irem (C : SC p s m args meth c R i D tA cst b) (hl : lv_has ls (m_lc i) (ml cst b lv)) {len : Nat}  (hd : decode (m_m i).2.2.1 pc = .ok (.irem, len)) (hn : len = 1) (hs : m_ex i pc (.irem) lv st h = some (.inl S)) : PS p l e R s m args below meth c H locs cells slots Q i cst b h pc ls st S := by
  obtain ⟨hx, hb, hml, hown, hts, hlocks, hini, hfr, hlo9, hks, hc, hr⟩ := C
  subst hn
  exact x_dv hl (fun x y r hy k => lv_irem hx hb hd hy k) hs
theorem y_ineg (C : SC p s m args meth c R i D tA cst b) (hl : lv_has ls (m_lc i) (ml cst b lv)) {len : Nat}  (hd : decode (m_m i).2.2.1 pc = .ok (.ineg, len)) (hn : len = 1) (hs : m_ex i pc (.ineg) lv st h = some (.inl S)) : PS p l e R s m args below meth c H locs cells slots Q i cst b h pc ls st S := by
  obtain ⟨hx, hb, hml, hown, hts, hlocks, hini, hfr, hlo9, hks, hc, hr⟩ := C
  subst hn
  exact x_i hl (f := fun x => .int (-x)) (fun x r k => lv_ineg hx hb hd k) hs
theorem y_lneg (C : SC p s m args meth c R i D tA cst b) (hl : lv_has ls (m_lc i) (ml cst b lv)) {len : Nat}  (hd : decode (m_m i).2.2.1 pc = .ok (.lneg, len)) (hn : len = 1) (hs : m_ex i pc (.lneg) lv st h = some (.inl S)) : PS p l e R s m args below meth c H locs cells slots Q i cst b h pc ls st S := by
  obtain ⟨hx, hb, hml, hown, hts, hlocks, hini, hfr, hlo9, hks, hc, hr⟩ := C
  subst hn
  exact x_l hl (f := fun x => .long (-x)) (fun x r k => lv_lneg hx hb hd k) hs
theorem y_i2l (C : SC p s m args meth c R i D tA cst b) (hl : lv_has ls (m_lc i) (ml cst b lv)) {len : Nat}  (hd : decode (m_m i).2.2.1 pc = .ok (.i2l, len)) (hn : len = 1) (hs : m_ex i pc (.i2l) lv st h = some (.inl S)) : PS p l e R s m args below meth c H locs cells slots Q i cst b h pc ls st S := by
  obtain ⟨hx, hb, hml, hown, hts, hlocks, hini, hfr, hlo9, hks, hc, hr⟩ := C
  subst hn
  exact x_i hl (f := fun x => .long x.toInt64) (fun x r k => lv_i2l hx hb hd rfl k) hs
theorem y_i2b (C : SC p s m args meth c R i D tA cst b) (hl : lv_has ls (m_lc i) (ml cst b lv)) {len : Nat}  (hd : decode (m_m i).2.2.1 pc = .ok (.i2b, len)) (hn : len = 1) (hs : m_ex i pc (.i2b) lv st h = some (.inl S)) : PS p l e R s m args below meth c H locs cells slots Q i cst b h pc ls st S := by
  obtain ⟨hx, hb, hml, hown, hts, hlocks, hini, hfr, hlo9, hks, hc, hr⟩ := C
  subst hn
  exact x_i hl (f := fun x => .int x.toInt8.toInt32) (fun x r k => lv_i2b hx hb hd rfl k) hs
theorem y_i2c (C : SC p s m args meth c R i D tA cst b) (hl : lv_has ls (m_lc i) (ml cst b lv)) {len : Nat}  (hd : decode (m_m i).2.2.1 pc = .ok (.i2c, len)) (hn : len = 1) (hs : m_ex i pc (.i2c) lv st h = some (.inl S)) : PS p l e R s m args below meth c H locs cells slots Q i cst b h pc ls st S := by
  obtain ⟨hx, hb, hml, hown, hts, hlocks, hini, hfr, hlo9, hks, hc, hr⟩ := C
  subst hn
  exact x_i hl (f := fun x => .int (x.toUInt32 % 65536).toInt32) (fun x r k => lv_i2c hx hb hd rfl k) hs
theorem y_l2i (C : SC p s m args meth c R i D tA cst b) (hl : lv_has ls (m_lc i) (ml cst b lv)) {len : Nat}  (hd : decode (m_m i).2.2.1 pc = .ok (.l2i, len)) (hn : len = 1) (hs : m_ex i pc (.l2i) lv st h = some (.inl S)) : PS p l e R s m args below meth c H locs cells slots Q i cst b h pc ls st S := by
  obtain ⟨hx, hb, hml, hown, hts, hlocks, hini, hfr, hlo9, hks, hc, hr⟩ := C
  subst hn
  exact x_l hl (f := fun x => .int x.toInt32) (fun x r k => lv_l2i hx hb hd rfl k) hs
theorem y_lcmp (C : SC p s m args meth c R i D tA cst b) (hl : lv_has ls (m_lc i) (ml cst b lv)) {len : Nat}  (hd : decode (m_m i).2.2.1 pc = .ok (.lcmp, len)) (hn : len = 1) (hs : m_ex i pc (.lcmp) lv st h = some (.inl S)) : PS p l e R s m args below meth c H locs cells slots Q i cst b h pc ls st S := by
  obtain ⟨hx, hb, hml, hown, hts, hlocks, hini, hfr, hlo9, hks, hc, hr⟩ := C
  subst hn
  simp only [m_ex] at hs
  split at hs
  · cases hs
    exact ⟨rfl, fun k => W.lcmp hx hb hd (k ls hl)⟩
  · cases hs
theorem y_iload_n (C : SC p s m args meth c R i D tA cst b) (hl : lv_has ls (m_lc i) (ml cst b lv)) {len : Nat} {k : Fin 4} (hd : decode (m_m i).2.2.1 pc = .ok (.iload_n k, len)) (hn : len = 1) (hs : m_ex i pc (.iload_n k) lv st h = some (.inl S)) : PS p l e R s m args below meth c H locs cells slots Q i cst b h pc ls st S := by
  obtain ⟨hx, hb, hml, hown, hts, hlocks, hini, hfr, hlo9, hks, hc, hr⟩ := C
  subst hn
  exact x_ild hl (fun x hx9 k9 => lv_iload_n hx hb hd rfl hx9 k9) hs
theorem y_iload (C : SC p s m args meth c R i D tA cst b) (hl : lv_has ls (m_lc i) (ml cst b lv)) {len : Nat} {k : Nat} (hd : decode (m_m i).2.2.1 pc = .ok (.iload k, len)) (hn : len = 2) (hs : m_ex i pc (.iload k) lv st h = some (.inl S)) : PS p l e R s m args below meth c H locs cells slots Q i cst b h pc ls st S := by
  obtain ⟨hx, hb, hml, hown, hts, hlocks, hini, hfr, hlo9, hks, hc, hr⟩ := C
  subst hn
  exact x_ild hl (fun x hx9 k9 => lv_iload hx hb hd hx9 k9) hs
theorem y_lload_n (C : SC p s m args meth c R i D tA cst b) (hl : lv_has ls (m_lc i) (ml cst b lv)) {len : Nat} {k : Fin 4} (hd : decode (m_m i).2.2.1 pc = .ok (.lload_n k, len)) (hn : len = 1) (hs : m_ex i pc (.lload_n k) lv st h = some (.inl S)) : PS p l e R s m args below meth c H locs cells slots Q i cst b h pc ls st S := by
  obtain ⟨hx, hb, hml, hown, hts, hlocks, hini, hfr, hlo9, hks, hc, hr⟩ := C
  subst hn
  exact x_lld hl (fun x hx9 k9 => lv_lload_n hx hb hd rfl hx9 k9) hs
theorem y_lload (C : SC p s m args meth c R i D tA cst b) (hl : lv_has ls (m_lc i) (ml cst b lv)) {len : Nat} {k : Nat} (hd : decode (m_m i).2.2.1 pc = .ok (.lload k, len)) (hn : len = 2) (hs : m_ex i pc (.lload k) lv st h = some (.inl S)) : PS p l e R s m args below meth c H locs cells slots Q i cst b h pc ls st S := by
  obtain ⟨hx, hb, hml, hown, hts, hlocks, hini, hfr, hlo9, hks, hc, hr⟩ := C
  subst hn
  exact x_lld hl (fun x hx9 k9 => lv_lload hx hb hd hx9 k9) hs
theorem y_aload_n (C : SC p s m args meth c R i D tA cst b) (hl : lv_has ls (m_lc i) (ml cst b lv)) {len : Nat} {k : Fin 4} (hd : decode (m_m i).2.2.1 pc = .ok (.aload_n k, len)) (hn : len = 1) (hs : m_ex i pc (.aload_n k) lv st h = some (.inl S)) : PS p l e R s m args below meth c H locs cells slots Q i cst b h pc ls st S := by
  obtain ⟨hx, hb, hml, hown, hts, hlocks, hini, hfr, hlo9, hks, hc, hr⟩ := C
  subst hn
  exact x_ald hc hl (fun x hx9 k9 => lv_aload_n hx hb hd rfl hx9 k9) (fun hx9 k9 => lv_aload_nN hx hb hd rfl hx9 k9) hs
theorem y_aload (C : SC p s m args meth c R i D tA cst b) (hl : lv_has ls (m_lc i) (ml cst b lv)) {len : Nat} {k : Nat} (hd : decode (m_m i).2.2.1 pc = .ok (.aload k, len)) (hn : len = 2) (hs : m_ex i pc (.aload k) lv st h = some (.inl S)) : PS p l e R s m args below meth c H locs cells slots Q i cst b h pc ls st S := by
  obtain ⟨hx, hb, hml, hown, hts, hlocks, hini, hfr, hlo9, hks, hc, hr⟩ := C
  subst hn
  exact x_ald hc hl (fun x hx9 k9 => lv_aload hx hb hd hx9 k9) (fun hx9 k9 => lv_aloadN hx hb hd hx9 k9) hs
theorem y_istore_n (C : SC p s m args meth c R i D tA cst b) (hl : lv_has ls (m_lc i) (ml cst b lv)) {len : Nat} {k : Fin 4} (hd : decode (m_m i).2.2.1 pc = .ok (.istore_n k, len)) (hn : len = 1) (hs : m_ex i pc (.istore_n k) lv st h = some (.inl S)) : PS p l e R s m args below meth c H locs cells slots Q i cst b h pc ls st S := by
  obtain ⟨hx, hb, hml, hown, hts, hlocks, hini, hfr, hlo9, hks, hc, hr⟩ := C
  subst hn
  exact x_ist hc hl (fun x r hk k9 => lv_istore_n hx hb hd rfl hl hk (ml_s1 hc lv _ (.int x)) (fun ls9 h9 => k9 ls9 h9)) hs
theorem y_istore (C : SC p s m args meth c R i D tA cst b) (hl : lv_has ls (m_lc i) (ml cst b lv)) {len : Nat} {k : Nat} (hd : decode (m_m i).2.2.1 pc = .ok (.istore k, len)) (hn : len = 2) (hs : m_ex i pc (.istore k) lv st h = some (.inl S)) : PS p l e R s m args below meth c H locs cells slots Q i cst b h pc ls st S := by
  obtain ⟨hx, hb, hml, hown, hts, hlocks, hini, hfr, hlo9, hks, hc, hr⟩ := C
  subst hn
  exact x_ist hc hl (fun x r hk k9 => lv_istore hx hb hd hl hk (ml_s1 hc lv _ (.int x)) (fun ls9 h9 => k9 ls9 h9)) hs
theorem y_lstore_n (C : SC p s m args meth c R i D tA cst b) (hl : lv_has ls (m_lc i) (ml cst b lv)) {len : Nat} {k : Fin 4} (hd : decode (m_m i).2.2.1 pc = .ok (.lstore_n k, len)) (hn : len = 1) (hs : m_ex i pc (.lstore_n k) lv st h = some (.inl S)) : PS p l e R s m args below meth c H locs cells slots Q i cst b h pc ls st S := by
  obtain ⟨hx, hb, hml, hown, hts, hlocks, hini, hfr, hlo9, hks, hc, hr⟩ := C
  subst hn
  exact x_lst hc hl (fun x r hk k9 => lv_lstore_n hx hb hd rfl hl hk (ml_s2 hc lv _ (.long x)) (fun ls9 h9 => k9 ls9 h9)) hs
theorem y_lstore (C : SC p s m args meth c R i D tA cst b) (hl : lv_has ls (m_lc i) (ml cst b lv)) {len : Nat} {k : Nat} (hd : decode (m_m i).2.2.1 pc = .ok (.lstore k, len)) (hn : len = 2) (hs : m_ex i pc (.lstore k) lv st h = some (.inl S)) : PS p l e R s m args below meth c H locs cells slots Q i cst b h pc ls st S := by
  obtain ⟨hx, hb, hml, hown, hts, hlocks, hini, hfr, hlo9, hks, hc, hr⟩ := C
  subst hn
  exact x_lst hc hl (fun x r hk k9 => lv_lstore hx hb hd hl hk (ml_s2 hc lv _ (.long x)) (fun ls9 h9 => k9 ls9 h9)) hs
theorem y_astore_n (C : SC p s m args meth c R i D tA cst b) (hl : lv_has ls (m_lc i) (ml cst b lv)) {len : Nat} {k : Fin 4} (hd : decode (m_m i).2.2.1 pc = .ok (.astore_n k, len)) (hn : len = 1) (hs : m_ex i pc (.astore_n k) lv st h = some (.inl S)) : PS p l e R s m args below meth c H locs cells slots Q i cst b h pc ls st S := by
  obtain ⟨hx, hb, hml, hown, hts, hlocks, hini, hfr, hlo9, hks, hc, hr⟩ := C
  subst hn
  exact x_ast hc hl (fun x r lv9 hk h8 k9 => lv_astore_n hx hb hd rfl hl hk h8 (fun ls9 h9 => k9 ls9 h9)) (fun r lv9 hk h8 k9 => lv_astore_nN hx hb hd rfl hl hk h8 (fun ls9 h9 => k9 ls9 h9)) hs
theorem y_astore (C : SC p s m args meth c R i D tA cst b) (hl : lv_has ls (m_lc i) (ml cst b lv)) {len : Nat} {k : Nat} (hd : decode (m_m i).2.2.1 pc = .ok (.astore k, len)) (hn : len = 2) (hs : m_ex i pc (.astore k) lv st h = some (.inl S)) : PS p l e R s m args below meth c H locs cells slots Q i cst b h pc ls st S := by
  obtain ⟨hx, hb, hml, hown, hts, hlocks, hini, hfr, hlo9, hks, hc, hr⟩ := C
  subst hn
  exact x_ast hc hl (fun x r lv9 hk h8 k9 => lv_astore hx hb hd hl hk h8 (fun ls9 h9 => k9 ls9 h9)) (fun r lv9 hk h8 k9 => lv_astoreN hx hb hd hl hk h8 (fun ls9 h9 => k9 ls9 h9)) hs
theorem y_iinc (C : SC p s m args meth c R i D tA cst b) (hl : lv_has ls (m_lc i) (ml cst b lv)) {len : Nat} {k : Nat} {z : Int} (hd : decode (m_m i).2.2.1 pc = .ok (.iinc k z, len)) (hn : len = 3) (hs : m_ex i pc (.iinc k z) lv st h = some (.inl S)) : PS p l e R s m args below meth c H locs cells slots Q i cst b h pc ls st S := by
  obtain ⟨hx, hb, hml, hown, hts, hlocks, hini, hfr, hlo9, hks, hc, hr⟩ := C
  subst hn
  exact x_inc hc hl (fun x j hj hk k9 => lv_iinc hx hb hd hl hj rfl hk (ml_s1 hc lv _ (.int (x + Int32.ofInt z))) (fun ls9 h9 => k9 ls9 h9)) hs
theorem y_dup (C : SC p s m args meth c R i D tA cst b) (hl : lv_has ls (m_lc i) (ml cst b lv)) {len : Nat}  (hd : decode (m_m i).2.2.1 pc = .ok (.dup, len)) (hn : len = 1) (hs : m_ex i pc (.dup) lv st h = some (.inl S)) : PS p l e R s m args below meth c H locs cells slots Q i cst b h pc ls st S := by
  obtain ⟨hx, hb, hml, hown, hts, hlocks, hini, hfr, hlo9, hks, hc, hr⟩ := C
  subst hn
  simp only [m_ex] at hs
  split at hs
  · next v r =>
    split at hs
    · next hv =>
      cases hs
      exact ⟨rfl, fun k => lv_dup hx hb hd ((mv_cat hc v).trans hv) (k ls hl)⟩
    · cases hs
  · cases hs
theorem y_pop (C : SC p s m args meth c R i D tA cst b) (hl : lv_has ls (m_lc i) (ml cst b lv)) {len : Nat}  (hd : decode (m_m i).2.2.1 pc = .ok (.pop, len)) (hn : len = 1) (hs : m_ex i pc (.pop) lv st h = some (.inl S)) : PS p l e R s m args below meth c H locs cells slots Q i cst b h pc ls st S := by
  obtain ⟨hx, hb, hml, hown, hts, hlocks, hini, hfr, hlo9, hks, hc, hr⟩ := C
  subst hn
  simp only [m_ex] at hs
  split at hs
  · next v r =>
    split at hs
    · next hv =>
      cases hs
      exact ⟨rfl, fun k => lv_pop hx hb hd ((mv_cat hc v).trans hv) (k ls hl)⟩
    · cases hs
  · cases hs
theorem y_pop2 (C : SC p s m args meth c R i D tA cst b) (hl : lv_has ls (m_lc i) (ml cst b lv)) {len : Nat}  (hd : decode (m_m i).2.2.1 pc = .ok (.pop2, len)) (hn : len = 1) (hs : m_ex i pc (.pop2) lv st h = some (.inl S)) : PS p l e R s m args below meth c H locs cells slots Q i cst b h pc ls st S := by
  obtain ⟨hx, hb, hml, hown, hts, hlocks, hini, hfr, hlo9, hks, hc, hr⟩ := C
  subst hn
  simp only [m_ex] at hs
  split at hs
  · next v r =>
    split at hs
    · next hv =>
      cases hs
      exact ⟨rfl, fun k => lv_pop2_2 hx hb hd ((mv_cat hc v).trans hv) (k ls hl)⟩
    · cases hs
  · cases hs
theorem y_dup2 (C : SC p s m args meth c R i D tA cst b) (hl : lv_has ls (m_lc i) (ml cst b lv)) {len : Nat}  (hd : decode (m_m i).2.2.1 pc = .ok (.dup2, len)) (hn : len = 1) (hs : m_ex i pc (.dup2) lv st h = some (.inl S)) : PS p l e R s m args below meth c H locs cells slots Q i cst b h pc ls st S := by
  obtain ⟨hx, hb, hml, hown, hts, hlocks, hini, hfr, hlo9, hks, hc, hr⟩ := C
  subst hn
  simp only [m_ex] at hs
  split at hs
  · next v w r =>
    split at hs
    · next hv =>
      cases hs
      exact ⟨rfl, fun k => lv_dup2_11 hx hb hd ((mv_cat hc v).trans hv.1) ((mv_cat hc w).trans hv.2) (k ls hl)⟩
    · cases hs
  · cases hs
theorem y_goto (C : SC p s m args meth c R i D tA cst b) (hl : lv_has ls (m_lc i) (ml cst b lv)) {len : Nat} {off : Int} (hd : decode (m_m i).2.2.1 pc = .ok (.goto off, len)) (hn : len = 3) (hs : m_ex i pc (.goto off) lv st h = some (.inl S)) : PS p l e R s m args below meth c H locs cells slots Q i cst b h pc ls st S := by
  obtain ⟨hx, hb, hml, hown, hts, hlocks, hini, hfr, hlo9, hks, hc, hr⟩ := C
  subst hn
  exact x_tg hl (fun tgt ht k => lv_goto hx hb hd ht k) hs
theorem y_icmp_eq (C : SC p s m args meth c R i D tA cst b) (hl : lv_has ls (m_lc i) (ml cst b lv)) {len : Nat} {off : Int} (hd : decode (m_m i).2.2.1 pc = .ok (.if_icmp .eq off, len)) (hn : len = 3) (hs : m_ex i pc (.if_icmp .eq off) lv st h = some (.inl S)) : PS p l e R s m args below meth c H locs cells slots Q i cst b h pc ls st S := by
  obtain ⟨hx, hb, hml, hown, hts, hlocks, hini, hfr, hlo9, hks, hc, hr⟩ := C
  subst hn
  simp only [m_ex] at hs
  split at hs
  · next y x r =>
    exact x_br (A := x = y) (B := ¬ x = y) hl (fun h9 => of_decide_eq_true h9) (fun h9 => of_decide_eq_false h9) (fun tgt ht h8 k => lv_icmp_eq hx hb hd ht (fun _ => k) (fun h9 => absurd h8 h9)) (fun tgt ht h8 k => lv_icmp_eq hx hb hd ht (fun h9 => absurd h9 h8) (fun _ => k)) hs
  · cases hs
theorem y_if_eq (C : SC p s m args meth c R i D tA cst b) (hl : lv_has ls (m_lc i) (ml cst b lv)) {len : Nat} {off : Int} (hd : decode (m_m i).2.2.1 pc = .ok (.ifCond .eq off, len)) (hn : len = 3) (hs : m_ex i pc (.ifCond .eq off) lv st h = some (.inl S)) : PS p l e R s m args below meth c H locs cells slots Q i cst b h pc ls st S := by
  obtain ⟨hx, hb, hml, hown, hts, hlocks, hini, hfr, hlo9, hks, hc, hr⟩ := C
  subst hn
  simp only [m_ex] at hs
  split at hs
  · next x r =>
    exact x_br (A := x = 0) (B := ¬ x = 0) hl (fun h9 => of_decide_eq_true h9) (fun h9 => of_decide_eq_false h9) (fun tgt ht h8 k => lv_if_eq hx hb hd ht (fun _ => k) (fun h9 => absurd h8 h9)) (fun tgt ht h8 k => lv_if_eq hx hb hd ht (fun h9 => absurd h9 h8) (fun _ => k)) hs
  · cases hs
theorem y_icmp_ne (C : SC p s m args meth c R i D tA cst b) (hl : lv_has ls (m_lc i) (ml cst b lv)) {len : Nat} {off : Int} (hd : decode (m_m i).2.2.1 pc = .ok (.if_icmp .ne off, len)) (hn : len = 3) (hs : m_ex i pc (.if_icmp .ne off) lv st h = some (.inl S)) : PS p l e R s m args below meth c H locs cells slots Q i cst b h pc ls st S := by
  obtain ⟨hx, hb, hml, hown, hts, hlocks, hini, hfr, hlo9, hks, hc, hr⟩ := C
  subst hn
  simp only [m_ex] at hs
  split at hs
  · next y x r =>
    exact x_br (A := ¬ x = y) (B := x = y) hl (fun h9 => by simpa [m_cmp] using h9) (fun h9 => by simpa [m_cmp] using h9) (fun tgt ht h8 k => lv_icmp_ne hx hb hd ht (fun _ => k) (fun h9 => absurd h9 h8)) (fun tgt ht h8 k => lv_icmp_ne hx hb hd ht (fun h9 => absurd h8 h9) (fun _ => k)) hs
  · cases hs
theorem y_if_ne (C : SC p s m args meth c R i D tA cst b) (hl : lv_has ls (m_lc i) (ml cst b lv)) {len : Nat} {off : Int} (hd : decode (m_m i).2.2.1 pc = .ok (.ifCond .ne off, len)) (hn : len = 3) (hs : m_ex i pc (.ifCond .ne off) lv st h = some (.inl S)) : PS p l e R s m args below meth c H locs cells slots Q i cst b h pc ls st S := by
  obtain ⟨hx, hb, hml, hown, hts, hlocks, hini, hfr, hlo9, hks, hc, hr⟩ := C
  subst hn
  simp only [m_ex] at hs
  split at hs
  · next x r =>
    exact x_br (A := ¬ x = 0) (B := x = 0) hl (fun h9 => by simpa [m_cmp] using h9) (fun h9 => by simpa [m_cmp] using h9) (fun tgt ht h8 k => lv_if_ne hx hb hd ht (fun _ => k) (fun h9 => absurd h9 h8)) (fun tgt ht h8 k => lv_if_ne hx hb hd ht (fun h9 => absurd h8 h9) (fun _ => k)) hs
  · cases hs
theorem y_icmp_lt (C : SC p s m args meth c R i D tA cst b) (hl : lv_has ls (m_lc i) (ml cst b lv)) {len : Nat} {off : Int} (hd : decode (m_m i).2.2.1 pc = .ok (.if_icmp .lt off, len)) (hn : len = 3) (hs : m_ex i pc (.if_icmp .lt off) lv st h = some (.inl S)) : PS p l e R s m args below meth c H locs cells slots Q i cst b h pc ls st S := by
  obtain ⟨hx, hb, hml, hown, hts, hlocks, hini, hfr, hlo9, hks, hc, hr⟩ := C
  subst hn
  simp only [m_ex] at hs
  split at hs
  · next y x r =>
    exact x_br (A := x < y) (B := ¬ x < y) hl (fun h9 => of_decide_eq_true h9) (fun h9 => of_decide_eq_false h9) (fun tgt ht h8 k => lv_icmp_lt hx hb hd ht (fun _ => k) (fun h9 => absurd h8 h9)) (fun tgt ht h8 k => lv_icmp_lt hx hb hd ht (fun h9 => absurd h9 h8) (fun _ => k)) hs
  · cases hs
theorem y_if_lt (C : SC p s m args meth c R i D tA cst b) (hl : lv_has ls (m_lc i) (ml cst b lv)) {len : Nat} {off : Int} (hd : decode (m_m i).2.2.1 pc = .ok (.ifCond .lt off, len)) (hn : len = 3) (hs : m_ex i pc (.ifCond .lt off) lv st h = some (.inl S)) : PS p l e R s m args below meth c H locs cells slots Q i cst b h pc ls st S := by
  obtain ⟨hx, hb, hml, hown, hts, hlocks, hini, hfr, hlo9, hks, hc, hr⟩ := C
  subst hn
  simp only [m_ex] at hs
  split at hs
  · next x r =>
    exact x_br (A := x < 0) (B := ¬ x < 0) hl (fun h9 => of_decide_eq_true h9) (fun h9 => of_decide_eq_false h9) (fun tgt ht h8 k => lv_if_lt hx hb hd ht (fun _ => k) (fun h9 => absurd h8 h9)) (fun tgt ht h8 k => lv_if_lt hx hb hd ht (fun h9 => absurd h9 h8) (fun _ => k)) hs
  · cases hs
theorem y_icmp_ge (C : SC p s m args meth c R i D tA cst b) (hl : lv_has ls (m_lc i) (ml cst b lv)) {len : Nat} {off : Int} (hd : decode (m_m i).2.2.1 pc = .ok (.if_icmp .ge off, len)) (hn : len = 3) (hs : m_ex i pc (.if_icmp .ge off) lv st h = some (.inl S)) : PS p l e R s m args below meth c H locs cells slots Q i cst b h pc ls st S := by
  obtain ⟨hx, hb, hml, hown, hts, hlocks, hini, hfr, hlo9, hks, hc, hr⟩ := C
  subst hn
  simp only [m_ex] at hs
  split at hs
  · next y x r =>
    exact x_br (A := y ≤ x) (B := ¬ y ≤ x) hl (fun h9 => of_decide_eq_true h9) (fun h9 => of_decide_eq_false h9) (fun tgt ht h8 k => lv_icmp_ge hx hb hd ht (fun _ => k) (fun h9 => absurd h8 h9)) (fun tgt ht h8 k => lv_icmp_ge hx hb hd ht (fun h9 => absurd h9 h8) (fun _ => k)) hs
  · cases hs
theorem y_if_ge (C : SC p s m args meth c R i D tA cst b) (hl : lv_has ls (m_lc i) (ml cst b lv)) {len : Nat} {off : Int} (hd : decode (m_m i).2.2.1 pc = .ok (.ifCond .ge off, len)) (hn : len = 3) (hs : m_ex i pc (.ifCond .ge off) lv st h = some (.inl S)) : PS p l e R s m args below meth c H locs cells slots Q i cst b h pc ls st S := by
  obtain ⟨hx, hb, hml, hown, hts, hlocks, hini, hfr, hlo9, hks, hc, hr⟩ := C
  subst hn
  simp only [m_ex] at hs
  split at hs
  · next x r =>
    exact x_br (A := 0 ≤ x) (B := ¬ 0 ≤ x) hl (fun h9 => of_decide_eq_true h9) (fun h9 => of_decide_eq_false h9) (fun tgt ht h8 k => lv_if_ge hx hb hd ht (fun _ => k) (fun h9 => absurd h8 h9)) (fun tgt ht h8 k => lv_if_ge hx hb hd ht (fun h9 => absurd h9 h8) (fun _ => k)) hs
  · cases hs
theorem y_icmp_gt (C : SC p s m args meth c R i D tA cst b) (hl : lv_has ls (m_lc i) (ml cst b lv)) {len : Nat} {off : Int} (hd : decode (m_m i).2.2.1 pc = .ok (.if_icmp .gt off, len)) (hn : len = 3) (hs : m_ex i pc (.if_icmp .gt off) lv st h = some (.inl S)) : PS p l e R s m args below meth c H locs cells slots Q i cst b h pc ls st S := by
  obtain ⟨hx, hb, hml, hown, hts, hlocks, hini, hfr, hlo9, hks, hc, hr⟩ := C
  subst hn
  simp only [m_ex] at hs
  split at hs
  · next y x r =>
    exact x_br (A := y < x) (B := ¬ y < x) hl (fun h9 => of_decide_eq_true h9) (fun h9 => of_decide_eq_false h9) (fun tgt ht h8 k => lv_icmp_gt hx hb hd ht (fun _ => k) (fun h9 => absurd h8 h9)) (fun tgt ht h8 k => lv_icmp_gt hx hb hd ht (fun h9 => absurd h9 h8) (fun _ => k)) hs
  · cases hs
theorem y_if_gt (C : SC p s m args meth c R i D tA cst b) (hl : lv_has ls (m_lc i) (ml cst b lv)) {len : Nat} {off : Int} (hd : decode (m_m i).2.2.1 pc = .ok (.ifCond .gt off, len)) (hn : len = 3) (hs : m_ex i pc (.ifCond .gt off) lv st h = some (.inl S)) : PS p l e R s m args below meth c H locs cells slots Q i cst b h pc ls st S := by
  obtain ⟨hx, hb, hml, hown, hts, hlocks, hini, hfr, hlo9, hks, hc, hr⟩ := C
  subst hn
  simp only [m_ex] at hs
  split at hs
  · next x r =>
    exact x_br (A := 0 < x) (B := ¬ 0 < x) hl (fun h9 => of_decide_eq_true h9) (fun h9 => of_decide_eq_false h9) (fun tgt ht h8 k => lv_if_gt hx hb hd ht (fun _ => k) (fun h9 => absurd h8 h9)) (fun tgt ht h8 k => lv_if_gt hx hb hd ht (fun h9 => absurd h9 h8) (fun _ => k)) hs
  · cases hs
theorem y_icmp_le (C : SC p s m args meth c R i D tA cst b) (hl : lv_has ls (m_lc i) (ml cst b lv)) {len : Nat} {off : Int} (hd : decode (m_m i).2.2.1 pc = .ok (.if_icmp .le off, len)) (hn : len = 3) (hs : m_ex i pc (.if_icmp .le off) lv st h = some (.inl S)) : PS p l e R s m args below meth c H locs cells slots Q i cst b h pc ls st S := by
  obtain ⟨hx, hb, hml, hown, hts, hlocks, hini, hfr, hlo9, hks, hc, hr⟩ := C
  subst hn
  simp only [m_ex] at hs
  split at hs
  · next y x r =>
    exact x_br (A := x ≤ y) (B := ¬ x ≤ y) hl (fun h9 => of_decide_eq_true h9) (fun h9 => of_decide_eq_false h9) (fun tgt ht h8 k => lv_icmp_le hx hb hd ht (fun _ => k) (fun h9 => absurd h8 h9)) (fun tgt ht h8 k => lv_icmp_le hx hb hd ht (fun h9 => absurd h9 h8) (fun _ => k)) hs
  · cases hs
theorem y_if_le (C : SC p s m args meth c R i D tA cst b) (hl : lv_has ls (m_lc i) (ml cst b lv)) {len : Nat} {off : Int} (hd : decode (m_m i).2.2.1 pc = .ok (.ifCond .le off, len)) (hn : len = 3) (hs : m_ex i pc (.ifCond .le off) lv st h = some (.inl S)) : PS p l e R s m args below meth c H locs cells slots Q i cst b h pc ls st S := by
  obtain ⟨hx, hb, hml, hown, hts, hlocks, hini, hfr, hlo9, hks, hc, hr⟩ := C
  subst hn
  simp only [m_ex] at hs
  split at hs
  · next x r =>
    exact x_br (A := x ≤ 0) (B := ¬ x ≤ 0) hl (fun h9 => of_decide_eq_true h9) (fun h9 => of_decide_eq_false h9) (fun tgt ht h8 k => lv_if_le hx hb hd ht (fun _ => k) (fun h9 => absurd h8 h9)) (fun tgt ht h8 k => lv_if_le hx hb hd ht (fun h9 => absurd h9 h8) (fun _ => k)) hs
  · cases hs
theorem y_ifnull (C : SC p s m args meth c R i D tA cst b) (hl : lv_has ls (m_lc i) (ml cst b lv)) {len : Nat} {off : Int} (hd : decode (m_m i).2.2.1 pc = .ok (.ifnull off, len)) (hn : len = 3) (hs : m_ex i pc (.ifnull off) lv st h = some (.inl S)) : PS p l e R s m args below meth c H locs cells slots Q i cst b h pc ls st S := by
  obtain ⟨hx, hb, hml, hown, hts, hlocks, hini, hfr, hlo9, hks, hc, hr⟩ := C
  subst hn
  simp only [m_ex] at hs
  split at hs
  · next a r =>
    split at hs
    · next ha =>
      subst ha
      exact x_tg hl (fun tgt ht k => lv_ifnullN hx hb hd ht k) hs
    · split at hs
      · next h16 =>
        cases hs
        refine ⟨rfl, fun k => ?_⟩
        show W p l e R s m args below meth c H locs cells slots Q (F0 m pc ls (mv cst b (.ref a) :: r.map (mv cst b)))
        rw [mv_dyn h16]
        exact lv_ifnull hx hb hd (k ls hl)
      · cases hs
  · cases hs
theorem y_ifnonnull (C : SC p s m args meth c R i D tA cst b) (hl : lv_has ls (m_lc i) (ml cst b lv)) {len : Nat} {off : Int} (hd : decode (m_m i).2.2.1 pc = .ok (.ifnonnull off, len)) (hn : len = 3) (hs : m_ex i pc (.ifnonnull off) lv st h = some (.inl S)) : PS p l e R s m args below meth c H locs cells slots Q i cst b h pc ls st S := by
  obtain ⟨hx, hb, hml, hown, hts, hlocks, hini, hfr, hlo9, hks, hc, hr⟩ := C
  subst hn
  simp only [m_ex] at hs
  split at hs
  · next a r =>
    split at hs
    · next ha =>
      subst ha
      cases hs
      exact ⟨rfl, fun k => lv_ifnonnullN hx hb hd (k ls hl)⟩
    · split at hs
      · next h16 =>
        refine x_tg hl (fun tgt ht k => ?_) hs
        show W p l e R s m args below meth c H locs cells slots Q (F0 m pc ls (mv cst b (.ref a) :: r.map (mv cst b)))
        rw [mv_dyn h16]
        exact lv_ifnonnull hx hb hd ht k
      · cases hs
  · cases hs
theorem y_tsw (C : SC p s m args meth c R i D tA cst b) (hl : lv_has ls (m_lc i) (ml cst b lv)) {len : Nat} {d lo hi : Int} {offs : Array Int} (hd : decode (m_m i).2.2.1 pc = .ok (.tableswitch d lo hi offs, len)) (hs : m_ex i pc (.tableswitch d lo hi offs) lv st h = some (.inl S)) : PS p l e R s m args below meth c H locs cells slots Q i cst b h pc ls st S := by
  obtain ⟨hx, hb, hml, hown, hts, hlocks, hini, hfr, hlo9, hks, hc, hr⟩ := C
  simp only [m_ex] at hs
  split at hs
  · next x r =>
    split at hs
    · next h1 => exact x_tg hl (fun tgt ht k => lv_tableOut hx hb hd h1 ht k) hs
    · next h1 =>
      split at hs
      · next o ho => exact x_tg hl (fun tgt ht k => lv_tableIn hx hb hd (fun q => h1 (Or.inl q)) (fun q => h1 (Or.inr q)) ho ht k) hs
      · cases hs
  · cases hs
end SIM
end
section
-- WHAT TOUCHES THE HEAP
theorem m_own_ok (i : Nat) : m_own[m_ow i]? = some (m_m i).2.1.cls := by
  rcases Nat.lt_or_ge i 292 with h | h
  · have h2 : (List.range 292).all (fun i => decide (m_own[m_ow i]? = some (m_m i).2.1.cls)) = true := by decide +kernel
    exact of_decide_eq_true (List.all_eq_true.mp h2 i (List.mem_range.mpr h))
  · have e1 : m_ow i = 0 := by
      unfold m_ow
      rw [List.getD_eq_getElem?_getD, List.getElem?_eq_none (by have : m_ownL.length = 292 := by decide +kernel
                                                                omega)]
      rfl
    have e2 : m_m i = m_d0 := by
      unfold m_m
      rw [List.getD_eq_getElem?_getD, List.getElem?_eq_none (by have : m_meths.length = 292 := by decide +kernel
                                                                omega)]
      rfl
    rw [e1, e2]
    rfl
theorem m_flw {i idx nest c k : Nat} (h : m_fl i idx = some (nest, c, k)) : m_fw (m_m i).2.1.cls (idx, nest, c, k) ∈ lw_tbl ∧ (c = 39 ∧ nest = 0 ∧ k < 2 ∨ c < 10 ∧ k < m_nf c ∧ nest < 2) := by
  have h1 := m_lk_mem h
  cases hl : m_flk[m_ow i]? with
  | none =>
    rw [List.getD_eq_getElem?_getD, hl] at h1
    cases h1
  | some l =>
    rw [List.getD_eq_getElem?_getD, hl] at h1
    refine ⟨m_KF _ _ _ (m_own_ok i) hl _ (List.mem_map.mpr ⟨_, h1, rfl⟩), ?_⟩
    have h2 := m_kfok l (List.mem_of_getElem? hl) _ h1
    exact of_decide_eq_true h2
theorem m_mlw {i idx nest j : Nat} (h : m_ml i idx = some (nest, j)) : m_mw (m_m i).2.1.cls (idx, nest, j) ∈ lw_tbl := by
  have h1 := m_lk_mem h
  cases hl : m_mlk[m_ow i]? with
  | none =>
    rw [List.getD_eq_getElem?_getD, hl] at h1
    cases h1
  | some l =>
    rw [List.getD_eq_getElem?_getD, hl] at h1
    exact m_KL _ _ _ (m_own_ok i) hl _ (List.mem_map.mpr ⟨_, h1, rfl⟩)
theorem m_ccw {i idx c : Nat} (h : m_cc i idx = some c) : m_clw (m_m i).2.1.cls (idx, c) ∈ lw_tbl := by
  have h1 := m_lk_mem h
  cases hl : m_clk[m_ow i]? with
  | none =>
    rw [List.getD_eq_getElem?_getD, hl] at h1
    cases h1
  | some l =>
    rw [List.getD_eq_getElem?_getD, hl] at h1
    exact m_KQ _ _ _ (m_own_ok i) hl _ (List.mem_map.mpr ⟨_, h1, rfl⟩)
theorem m_icw' {i idx : Nat} {x : Int32} (h : m_ic i idx = some x) : m_icw (m_m i).2.1.cls (idx, x) ∈ lw_tbl := by
  have h1 := m_lk_mem h
  cases hl : m_ick[m_ow i]? with
  | none =>
    rw [List.getD_eq_getElem?_getD, hl] at h1
    cases h1
  | some l =>
    rw [List.getD_eq_getElem?_getD, hl] at h1
    exact m_KI _ _ _ (m_own_ok i) hl _ (List.mem_map.mpr ⟨_, h1, rfl⟩)
theorem m_jcw {i idx : Nat} {x : Int64} (h : m_jc i idx = some x) : m_lcw (m_m i).2.1.cls (idx, x) ∈ lw_tbl := by
  have h1 := m_lk_mem h
  cases hl : m_lck[m_ow i]? with
  | none =>
    rw [List.getD_eq_getElem?_getD, hl] at h1
    cases h1
  | some l =>
    rw [List.getD_eq_getElem?_getD, hl] at h1
    exact m_KJ _ _ _ (m_own_ok i) hl _ (List.mem_map.mpr ⟨_, h1, rfl⟩)
section SIMH
variable {p : Program} {l : Launch} {e : Env} {R : Room} {s : State} {m : MethodId} {args : Array Value} {below : List Frame} {meth : Method} {c : Code} {Q : State → Prop} {i : Nat} {D : va_G} {tA : Nat → ClassId} {cst : Nat → Value} {b : Nat}
variable {H : Heap} {locs : List Loc} {cells slots : Nat} {pc : Nat} {ls : Array Slot} {lv : List (Nat × Value)} {st : List Value} {h : MH} {S : MS}
theorem z_obP {ci a : Nat} {q : vw_C} {V : Nat → Value} (hq : m_cl[ci]? = some q) (hO : t_OB a (D.1 ci) q.2.2 (D.2 ci) H V) : va_P D m_cl [(a, .inr (ci, (List.range q.2.2).map V))] H := by
  intro k x hk
  have h0 : k < 1 := (List.getElem?_eq_some_iff.mp hk).1
  rw [show k = 0 by omega] at hk
  cases hk
  refine ⟨q, hq, hO.to fun j hj => ?_⟩
  show V j = ((List.range q.2.2).map V).getD j .null
  rw [List.getD_eq_getElem?_getD, List.getElem?_map, List.getElem?_range hj]
  rfl
theorem z_get (C : SC p s m args meth c R i D tA cst b) (hR : HR D tA cst b s h H) (hl : lv_has ls (m_lc i) (ml cst b lv)) {idx : Nat} (hd : decode (m_m i).2.2.1 pc = .ok (.getfield idx, 3)) (hs : e_get i idx pc lv st h = some (.inl S)) : PS p l e R s m args below meth c H locs cells slots Q i cst b h pc ls st S := by
  obtain ⟨hx, hb, hml, hown, hts, hlocks, hini, hfr, hlo9, hks, hc, hr⟩ := C
  unfold e_get at hs
  split at hs
  · next a r nest ci k hf =>
    split at hs
    · next hk9 =>
      obtain ⟨hw, hcase⟩ := m_flw hf
      have key : W p l e R s m args below meth c H locs cells slots Q (F0 m (pc + 3) ls (m_fv cst b h a ci k :: r.map (mv cst b))) → W p l e R s m args below meth c H locs cells slots Q (F0 m pc ls (mv cst b (.ref a) :: r.map (mv cst b))) := by
        intro kk
        rcases hcase with ⟨h39, h0, hk2⟩ | ⟨hc10, hkN, hn2⟩
        · subst h39
          subst h0
          have ha : a < 16 := by
            rcases Nat.lt_or_ge a 16 with h1 | h1
            · exact h1
            · rcases hR.cell h1 (by omega) with ⟨q1, q2, q3⟩ | ⟨q1, q2, q3⟩
              · omega
              · rw [hk9] at q1
                exact absurd q1 (by decide)
          have hcst := hR.2.2.2.1 a ha
          unfold m_cst at hcst
          rw [hk9] at hcst
          obtain ⟨r9, e1, e2, e3, e4, e5⟩ := hcst
          have ha0 : a ≠ 0 := by
            intro e9
            rw [e9] at hk9
            have := hR.2.2.2.2.2
            omega
          rw [mv_cst ha0 ha, e1]
          match k, hk2 with
          | 0, _ =>
            obtain ⟨cf, kf, fi, f, cell, f1, f2, f3, f4, f5, -⟩ := e5
            exact W.getf hx hb hown (hts _ (m_tgI hw rfl)) f1 f2 f3 f4 f5 rfl rfl hd kk
          | 1, _ =>
            obtain ⟨cf, kf, fi, f, cell, f1, f2, f3, f4, f5, -⟩ := e4
            exact W.getf hx hb hown (hts _ (m_tgI hw rfl)) f1 f2 f3 f4 f5 rfl rfl hd kk
        · obtain ⟨ha, hO⟩ := hR.obj hk9 hc10
          obtain ⟨q, hq, hN, hin, -, -, -, -, -, hT⟩ := m_clf ci hc10
          rw [hN] at hO hkN
          have hv : ((List.range q.2.2).map (m_fv cst b h a ci))[k]? = some (m_fv cst b h a ci k) := by
            rw [List.getElem?_map, List.getElem?_range hkN]
            rfl
          have hw2 := hw
          unfold m_fw at hw2
          rw [show m_cl[((idx, nest, ci, k) : Nat × Nat × Nat × Nat).2.2.1]? = some q from hq] at hw2
          rw [mv_dyn ha]
          match nest, hn2 with
          | 0, _ => exact va_get (D := D) (ci := ci) (C := q.1) (T := q.2.1) (N := q.2.2) hx hb hts hin hown hks.1 (z_obP hq hO) 0 rfl hq k hkN (hts _ (m_tgI hw2 rfl)) (fun x h9 => by rw [hT k hkN] at h9; exact h9) hv hd kk
          | 1, _ => exact va_getN (D := D) (ci := ci) (C := q.1) (T := q.2.1) (N := q.2.2) hx hb hts hin hown hks.1 (z_obP hq hO) 0 rfl hq k hkN (va_Nw.use rfl (hks.2.1 _ hw2 rfl)) (fun x h9 => by rw [hT k hkN] at h9; exact h9) hv hd kk
      split at hs
      · next ht =>
        cases hs
        exact ⟨rfl, fun k9 => key (by have := k9 ls hl; unfold m_fv; rw [ht]; exact this)⟩
      · next ht =>
        cases hs
        exact ⟨rfl, fun k9 => key (by have := k9 ls hl; unfold m_fv; rw [ht]; exact this)⟩
      · next h0 h1 =>
        cases hs
        exact ⟨rfl, fun k9 => key (by
          have h9 := k9 ls hl
          have e9 : m_fv cst b h a ci k = mv cst b (.ref (h_r h a k)) := by
            unfold m_fv
            split
            · next q => exact absurd q h0
            · next q => exact absurd q h1
            · rfl
          rw [e9]
          exact h9)⟩
    · cases hs
  · cases hs
theorem z_putW (C : SC p s m args meth c R i D tA cst b) {idx nest ci k a : Nat} {V : Nat → Value} {v : Value} {rest : List Value} (hf : m_fl i idx = some (nest, ci, k)) (hc10 : ci < 10) (hO : t_OB a (D.1 ci) (m_nf ci) (D.2 ci) H V)
    (hv : ∀ ty : FieldType, ((m_ty ci k).1 = 0 → ty = .int) → ((m_ty ci k).1 = 1 → ty = .long) → ((m_ty ci k).1 ≠ 0 → (m_ty ci k).1 ≠ 1 → m_rr (some ty) = true) → narrow ty v = v ∧ fits ty v = true)
    (hfin : (m_ty ci k).2 = true → nest = 0 ∧ m_kind i = 2 ∧ m_cnm ci = (m_m i).2.1.cls) (hd : decode (m_m i).2.2.1 pc = .ok (.putfield idx, 3))
    (kk : ∀ (H' : Heap) (z : Nat), t_OB a (D.1 ci) (m_nf ci) (D.2 ci) H' (updV V k v) → H'.size = H.size → (∀ q, q ≠ a → H'[q]? = H[q]?) → W p l e R s m args below meth c H' (locs ++ [⟨a, z⟩]) cells slots Q (F0 m (pc + 3) ls rest)) : W p l e R s m args below meth c H locs cells slots Q (F0 m pc ls (v :: .ref a :: rest)) := by
  obtain ⟨hx, hb, hml, hown, hts, hlocks, hini, hfr, hlo9, hks, hc, hr⟩ := C
  obtain ⟨hw, hcase⟩ := m_flw hf
  have hkN : k < m_nf ci := by rcases hcase with ⟨h39, -⟩ | ⟨-, h, -⟩ <;> omega
  have hn2 : nest < 2 := by rcases hcase with ⟨h39, -⟩ | ⟨-, -, h⟩ <;> omega
  obtain ⟨q, hq, hN, hin, hnm, ⟨ty, hty, hty2⟩, hfn, -, -, hT⟩ := m_clf ci hc10
  rw [hN] at hO hkN
  rw [hN] at kk
  have hw2 := hw
  unfold m_fw at hw2
  rw [show m_cl[((idx, nest, ci, k) : Nat × Nat × Nat × Nat).2.2.1]? = some q from hq] at hw2
  obtain ⟨hnar, hfit⟩ := hv (ty k) (hty2 k hkN).1 (hty2 k hkN).2.1 (hty2 k hkN).2.2
  have hap := va_apart (own := (m_m i).2.1.cls) (args := args) (C := q.1) (T := q.2.1) (N := q.2.2) (ci := ci) hts hin ty hty hnm hks.1 hq
  obtain ⟨cell, q1, q2, q3, q4⟩ := hO
  obtain ⟨hS, hfc, kC, hkC, hkind⟩ := hks.1.1 ci _ hq
  obtain ⟨cf, kf, fi, f, hi, hsl⟩ := hS k hkN
  have hlay := hts _ (hin _ (u_in_lay hkN))
  have hst := (u_facts hfc hkC (u_lays hts hin hkN) hi).1
  have hsame : ∀ x, s.fieldFound? (q.2.1 k).1 (q.2.1 k).2.1 (q.2.1 k).2.2.1 = some x → s.fieldFound? q.1 (q.2.1 k).2.1 (q.2.1 k).2.2.1 = some x := fun x h9 => by rw [hT k hkN] at h9; exact h9
  by_cases hfi : (m_ty ci k).2 = true
  · obtain ⟨hn0, hk2, hcn⟩ := hfin hfi
    subst hn0
    have hq1 : q.1 = (m_m i).2.1.cls := by
      rw [← hcn]
      unfold m_cnm
      rw [hq]
    have hfF : (q.2.1 k).2.2.2 = true := (hfn k hkN).trans hfi
    unfold u_lay at hlay
    rw [if_pos hfF] at hlay
    have hcf : m.cls = cf := by
      obtain ⟨_, _, c', _, _, _, -, -, hf', -, -, -, hown2, -⟩ := Cond.laysFinal_spec hlay
      have e1 : c' = cf := by have := hi.symm.trans hf'; simp at this; exact this.1.symm
      rw [hT k hkN, hq1] at hown2
      rw [← e1]; exact Option.some.inj (hown.symm.trans hown2)
    have h6 := u_fits hfc hkC hkind (Or.inr hlay) hi (hty k hkN) hnar hfit
    refine W.putFinK hx hb hown (hts _ (m_tgI hw2 rfl)) (hsame _ hi) hst hcf (hini hk2) (by rw [q2]; exact h6) q1 q3 (by rw [hsl]; exact k2_hasslot (q4 k hkN)) rfl rfl hd fun H' e1 e2 e3 => ?_
    rw [hsl] at e1
    exact kk H' _ ⟨_, e1, q2, q3, t_set q4 hap hkN v⟩ e2 e3
  · have hfF : (q.2.1 k).2.2.2 = false := (hfn k hkN).trans (by simpa using hfi)
    unfold u_lay at hlay
    rw [if_neg (by rw [hfF]; decide)] at hlay
    have h6 := u_store hfc hkC hkind hlay hi (hty k hkN) hnar hfit
    match nest, hn2 with
    | 0, _ =>
      refine W.putK hx hb (f := f) ⟨hown, hts _ (m_tgI hw2 rfl), ⟨_, _, _, hsame _ hi⟩, hst⟩ (by rw [q2]; exact h6) q1 q3 (by rw [hsl]; exact k2_hasslot (q4 k hkN)) rfl rfl hd fun H' e1 e2 e3 => ?_
      rw [hsl] at e1
      exact kk H' _ ⟨_, e1, q2, q3, t_set q4 hap hkN v⟩ e2 e3
    | 1, _ =>
      refine va_WputK hx hb (f := f) hown (va_Nw.use rfl (hks.2.1 _ hw2 rfl)) (hsame _ hi) hst (by rw [q2]; exact h6) q1 q3 (by rw [hsl]; exact k2_hasslot (q4 k hkN)) rfl rfl hd fun H' e1 e2 e3 => ?_
      rw [hsl] at e1
      exact kk H' _ ⟨_, e1, q2, q3, t_set q4 hap hkN v⟩ e2 e3
-- what a step that changes the heap, but makes nothing, owes
def HS (p : Program) (l : Launch) (e : Env) (R : Room) (s : State) (m : MethodId) (args : Array Value) (below : List Frame) (meth : Method) (c : Code) (H : Heap) (locs : List Loc) (cells slots : Nat) (Q : State → Prop) (i : Nat) (D : va_G) (tA : Nat → ClassId) (cst : Nat → Value) (b : Nat) (h : MH) (pc : Nat) (ls : Array Slot) (st : List Value) (S : MS) : Prop :=
  (h_n S.2.2.2 = h_n h ∧ h_z S.2.2.2 = h_z h) ∧ ((∀ H' locs' ls', HR D tA cst b s S.2.2.2 H' → (∀ q ∈ locs', b ≤ q.base) → lv_has ls' (m_lc i) (ml cst b S.2.1) → W p l e R s m args below meth c H' locs' cells slots Q (F0 m S.1 ls' (S.2.2.1.map (mv cst b)))) → W p l e R s m args below meth c H locs cells slots Q (F0 m pc ls (st.map (mv cst b))))
theorem z_loc {a z : Nat} (hlo : ∀ q ∈ locs, b ≤ q.base) (ha : b ≤ a) : ∀ q ∈ locs ++ [(⟨a, z⟩ : Loc)], b ≤ q.base := by
  intro q hq
  rcases List.mem_append.mp hq with h1 | h1
  · exact hlo q h1
  · rw [List.mem_singleton.mp h1]
    exact ha
theorem z_put (C : SC p s m args meth c R i D tA cst b) (hR : HR D tA cst b s h H) (hlo : ∀ q ∈ locs, b ≤ q.base) (hl : lv_has ls (m_lc i) (ml cst b lv)) {idx : Nat} (hd : decode (m_m i).2.2.1 pc = .ok (.putfield idx, 3)) (hs : e_put i idx pc lv st h = some (.inl S)) : HS p l e R s m args below meth c H locs cells slots Q i D tA cst b h pc ls st S := by
  unfold e_put at hs
  split at hs
  · next x a r nest ci k hf =>
    split at hs
    · next hk =>
      obtain ⟨hk9, hc10, hkN, hty⟩ := hk
      cases hs
      obtain ⟨ha, hO⟩ := hR.obj hk9 hc10
      refine ⟨⟨rfl, rfl⟩, fun K => ?_⟩
      show W p l e R s m args below meth c H locs cells slots Q (F0 m pc ls (.int x :: mv cst b (.ref a) :: r.map (mv cst b)))
      rw [mv_dyn ha]
      refine z_putW C hf hc10 hO (v := .int x) (fun ty h0 _ _ => by rw [h0 (by rw [hty])]; exact ⟨rfl, rfl⟩) (fun q => by rw [hty] at q; cases q) hd (fun H' z e1 e2 e3 => ?_)
      refine K H' _ ls (hR.upd ha rfl rfl (fun y hy => ⟨if_neg hy, rfl, rfl⟩) e2 e3 (Or.inl ?_)) (z_loc hlo (Nat.le_add_right b _)) hl
      have hk8 : (h_k (h_si h a k x) a).1 = ci + 1 := hk9
      rw [hk8]
      refine ⟨by omega, by omega, e1.to (fun j hj => ?_)⟩
      show updV (m_fv cst b h a ci) k (.int x) j = m_fv cst b (h_si h a k x) a ci j
      unfold updV m_fv h_si h_i h_l h_r
      by_cases e9 : j = k
      · subst e9
        simp [hty, m_u]
      · simp [e9, m_u]
    · cases hs
  · next x a r nest ci k hf =>
    split at hs
    · next hk =>
      obtain ⟨hk9, hc10, hkN, hty⟩ := hk
      cases hs
      obtain ⟨ha, hO⟩ := hR.obj hk9 hc10
      refine ⟨⟨rfl, rfl⟩, fun K => ?_⟩
      show W p l e R s m args below meth c H locs cells slots Q (F0 m pc ls (.long x :: mv cst b (.ref a) :: r.map (mv cst b)))
      rw [mv_dyn ha]
      refine z_putW C hf hc10 hO (v := .long x) (fun ty _ h0 _ => by rw [h0 (by rw [hty])]; exact ⟨rfl, rfl⟩) (fun q => by rw [hty] at q; cases q) hd (fun H' z e1 e2 e3 => ?_)
      refine K H' _ ls (hR.upd ha rfl rfl (fun y hy => ⟨rfl, if_neg hy, rfl⟩) e2 e3 (Or.inl ?_)) (z_loc hlo (Nat.le_add_right b _)) hl
      have hk8 : (h_k (h_sl h a k x) a).1 = ci + 1 := hk9
      rw [hk8]
      refine ⟨by omega, by omega, e1.to (fun j hj => ?_)⟩
      show updV (m_fv cst b h a ci) k (.long x) j = m_fv cst b (h_sl h a k x) a ci j
      unfold updV m_fv h_sl h_i h_l h_r
      by_cases e9 : j = k
      · subst e9
        simp [hty, m_u]
      · simp [e9, m_u]
    · cases hs
  · next x a r nest ci k hf =>
    split at hs
    · next hk =>
      obtain ⟨hk9, hc10, hkN, hty, hfi⟩ := hk
      cases hs
      obtain ⟨ha, hO⟩ := hR.obj hk9 hc10
      refine ⟨⟨rfl, rfl⟩, fun K => ?_⟩
      show W p l e R s m args below meth c H locs cells slots Q (F0 m pc ls (mv cst b (.ref x) :: mv cst b (.ref a) :: r.map (mv cst b)))
      rw [mv_dyn ha]
      have hcok := C.2.2.2.2.2.2.2.2.2.2.1
      refine z_putW C hf hc10 hO (v := mv cst b (.ref x)) (fun ty _ _ h0 => ?_) (fun q => ⟨(hfi q).1, (hfi q).2.1, (hfi q).2.2.2⟩) hd (fun H' z e1 e2 e3 => ?_)
      · have h9 := h0 (by rw [hty]; decide) (by rw [hty]; decide)
        rcases mv_ref (b := b) hcok x with q | ⟨y, q⟩ <;> rw [q] <;> cases ty <;> first | exact ⟨rfl, rfl⟩ | exact absurd h9 (by decide)
      · refine K H' _ ls (hR.upd ha rfl rfl (fun y hy => ⟨rfl, rfl, if_neg hy⟩) e2 e3 (Or.inl ?_)) (z_loc hlo (Nat.le_add_right b _)) hl
        have hk8 : (h_k (h_sr h a k x) a).1 = ci + 1 := hk9
        rw [hk8]
        refine ⟨by omega, by omega, e1.to (fun j hj => ?_)⟩
        show updV (m_fv cst b h a ci) k (mv cst b (.ref x)) j = m_fv cst b (h_sr h a k x) a ci j
        unfold updV m_fv h_sr h_i h_l h_r
        by_cases e9 : j = k
        · subst e9
          simp [hty, m_u]
        · simp [e9, m_u]
    · cases hs
  · cases hs
theorem m_okk_or {k : Nat} (h : m_okk k = true) : k = 20 ∨ k = 21 ∨ k = 22 ∨ k = 25 ∨ k = 30 ∨ k = 31 ∨ k = 32 ∨ k = 33 := by
  simp [m_okk] at h
  omega
theorem m_inS {j : Int32} {n : Nat} (h : m_in j n = true) : ¬ j < 0 ∧ j.toNatClampNeg < n := by
  simp only [m_in, Bool.and_eq_true, decide_eq_true_eq] at h
  exact h
theorem m_inA {j : Int32} {n : Nat} {cI : ClassId} {f : Nat → Value} (h : m_in j n = true) : ¬ (j < 0 ∨ (arrV cI n f).slots.size ≤ j.toNatClampNeg) := by
  obtain ⟨h1, h2⟩ := m_inS h
  rw [arrV_size]
  rintro (q | q)
  · exact h1 q
  · omega
theorem z_iald (C : SC p s m args meth c R i D tA cst b) (hR : HR D tA cst b s h H) (hl : lv_has ls (m_lc i) (ml cst b lv)) (hd : decode (m_m i).2.2.1 pc = .ok (.iaload, 1)) (hs : e_iald 20 20 pc lv st h = some (.inl S)) : PS p l e R s m args below meth c H locs cells slots Q i cst b h pc ls st S := by
  obtain ⟨hx, hb, hml, hown, hts, hlocks, hini, hfr, hlo9, hks, hc, hr⟩ := C
  unfold e_iald at hs
  split at hs
  · next j a r =>
    split at hs
    · next hk =>
      obtain ⟨hk, hin⟩ := hk
      have hk : (h_k h a).1 = 20 := hk.elim id id
      cases hs
      refine ⟨rfl, fun K => ?_⟩
      have K := K ls hl
      show W p l e R s m args below meth c H locs cells slots Q (F0 m pc ls (.int j :: mv cst b (.ref a) :: r.map (mv cst b)))
      rcases (Nat.lt_or_ge a 16).symm with ha | ha
      · obtain ⟨-, hcell, -⟩ := hR.arr ha (by omega)
        rw [hk] at hcell
        rw [mv_dyn ha]
        exact W.iald (v := .int (h_i h a j.toNatClampNeg)) hx hb hcell ((hks.1.2 0 _ rfl).1 _ _) (fun q => by cases q) (m_inA hin) (by rw [arrV_read _ _ (m_inS hin).2]; rfl) rfl rfl hd K
      · have hq := hR.2.2.2.1 a (by omega)
        unfold m_cst at hq
        rw [hk] at hq
        obtain ⟨r9, cell, q1, q2, q3, q4, q5, q6, q7, q8⟩ := hq
        have ha0 : a ≠ 0 := by
          intro e9
          rw [e9] at hk
          have := hR.2.2.2.2.2
          omega
        rw [mv_cst ha0 (by omega), q1]
        exact W.iald (v := .int (h_i h a j.toNatClampNeg)) hx hb q3 q4 q5 (by rintro (q | q); exact (m_inS hin).1 q; have := (m_inS hin).2; omega) (q8 _ (m_inS hin).2) rfl rfl hd K
    · cases hs
  · cases hs
theorem z_bald (C : SC p s m args meth c R i D tA cst b) (hR : HR D tA cst b s h H) (hl : lv_has ls (m_lc i) (ml cst b lv)) (hd : decode (m_m i).2.2.1 pc = .ok (.baload, 1)) (hs : e_iald 21 22 pc lv st h = some (.inl S)) : PS p l e R s m args below meth c H locs cells slots Q i cst b h pc ls st S := by
  obtain ⟨hx, hb, hml, hown, hts, hlocks, hini, hfr, hlo9, hks, hc, hr⟩ := C
  unfold e_iald at hs
  split at hs
  · next j a r =>
    split at hs
    · next hk =>
      obtain ⟨hk, hin⟩ := hk
      cases hs
      refine ⟨rfl, fun K => ?_⟩
      have K := K ls hl
      show W p l e R s m args below meth c H locs cells slots Q (F0 m pc ls (.int j :: mv cst b (.ref a) :: r.map (mv cst b)))
      rcases (Nat.lt_or_ge a 16).symm with ha | ha
      · obtain ⟨-, hcell, -⟩ := hR.arr ha (by omega)
        rw [mv_dyn ha]
        rcases hk with hk | hk
        · rw [hk] at hcell
          exact W.bald (v := .int (h_i h a j.toNatClampNeg)) hx hb hcell ((hks.1.2 1 _ rfl).1 _ _) (fun q => by cases q) (m_inA hin) (by rw [arrV_read _ _ (m_inS hin).2]; rfl) rfl rfl hd K
        · rw [hk] at hcell
          exact W.zald (v := .int (h_i h a j.toNatClampNeg)) hx hb hcell ((hks.1.2 2 _ rfl).1 _ _) (fun q => by cases q) (m_inA hin) (by rw [arrV_read _ _ (m_inS hin).2]; rfl) rfl rfl hd K
      · have hq := hR.2.2.2.1 a (by omega)
        unfold m_cst at hq
        have ha0 : a ≠ 0 := by
          intro e9
          rw [e9] at hk
          have := hR.2.2.2.2.2
          omega
        rcases hk with hk | hk
        · rw [hk] at hq
          obtain ⟨r9, cell, q1, q2, q3, q4, q5, q6, q7, q8⟩ := hq
          rw [mv_cst ha0 (by omega), q1]
          exact W.bald (v := .int (h_i h a j.toNatClampNeg)) hx hb q3 q4 q5 (by rintro (q | q); exact (m_inS hin).1 q; have := (m_inS hin).2; omega) (q8 _ (m_inS hin).2) rfl rfl hd K
        · rw [hk] at hq
          exact hq.elim
    · cases hs
  · cases hs
theorem z_dyn {a : Nat} (hR : HR D tA cst b s h H) (hk : 25 ≤ (h_k h a).1) (hk2 : (h_k h a).1 < 40) : 16 ≤ a := by
  rcases Nat.lt_or_ge a 16 with h1 | h1
  · have hq := hR.2.2.2.1 a h1
    unfold m_cst at hq
    generalize (h_k h a).1 = k at hk hk2 hq
    match k, hk, hk2, hq with
    | 0, hk, _, _ => omega
    | 20, hk, _, _ => omega
    | 21, hk, _, _ => omega
    | 40, _, hk2, _ => omega
    | k, _, _, hq =>
      split at hq
      · omega
      · omega
      · omega
      · omega
      · exact hq.elim
  · exact h1
theorem z_lald (C : SC p s m args meth c R i D tA cst b) (hR : HR D tA cst b s h H) (hl : lv_has ls (m_lc i) (ml cst b lv)) (hd : decode (m_m i).2.2.1 pc = .ok (.laload, 1)) (hs : e_lald pc lv st h = some (.inl S)) : PS p l e R s m args below meth c H locs cells slots Q i cst b h pc ls st S := by
  obtain ⟨hx, hb, hml, hown, hts, hlocks, hini, hfr, hlo9, hks, hc, hr⟩ := C
  unfold e_lald at hs
  split at hs
  · next j a r =>
    split at hs
    · next hk =>
      obtain ⟨hk, hin⟩ := hk
      cases hs
      refine ⟨rfl, fun K => ?_⟩
      have K := K ls hl
      show W p l e R s m args below meth c H locs cells slots Q (F0 m pc ls (.int j :: mv cst b (.ref a) :: r.map (mv cst b)))
      have ha : 16 ≤ a := z_dyn hR (by omega) (by omega)
      obtain ⟨-, hcell, -⟩ := hR.arr ha (by omega)
      rw [hk] at hcell
      rw [mv_dyn ha]
      exact W.lald (v := .long (h_l h a j.toNatClampNeg)) hx hb hcell ((hks.1.2 3 _ rfl).1 _ _) (fun q => by cases q) (m_inA hin) (by rw [arrV_read _ _ (m_inS hin).2]; rfl) rfl rfl hd K
    · cases hs
  · cases hs
theorem z_aald (C : SC p s m args meth c R i D tA cst b) (hR : HR D tA cst b s h H) (hl : lv_has ls (m_lc i) (ml cst b lv)) (hd : decode (m_m i).2.2.1 pc = .ok (.aaload, 1)) (hs : e_aald pc lv st h = some (.inl S)) : PS p l e R s m args below meth c H locs cells slots Q i cst b h pc ls st S := by
  obtain ⟨hx, hb, hml, hown, hts, hlocks, hini, hfr, hlo9, hks, hc, hr⟩ := C
  unfold e_aald at hs
  split at hs
  · next j a r =>
    split at hs
    · next hk =>
      obtain ⟨hk, hin⟩ := hk
      cases hs
      refine ⟨rfl, fun K => ?_⟩
      have K := K ls hl
      show W p l e R s m args below meth c H locs cells slots Q (F0 m pc ls (.int j :: mv cst b (.ref a) :: r.map (mv cst b)))
      have ha : 16 ≤ a := z_dyn hR (by omega) (by omega)
      obtain ⟨-, hcell, -⟩ := hR.arr ha (by omega)
      rw [mv_dyn ha]
      have hk4 : (h_k h a).1 = 30 ∨ (h_k h a).1 = 31 ∨ (h_k h a).1 = 32 ∨ (h_k h a).1 = 33 := by omega
      rcases hk4 with e9 | e9 | e9 | e9
      · rw [e9] at hcell
        exact W.aald (v := mv cst b (.ref (h_r h a j.toNatClampNeg))) (ty := .object RX6) hx hb hcell ((hks.1.2 4 _ rfl).1 _ _) rfl (fun q => by cases q) (m_inA hin) (by rw [arrV_read _ _ (m_inS hin).2]; rfl) rfl rfl hd K
      · rw [e9] at hcell
        exact W.aald (v := mv cst b (.ref (h_r h a j.toNatClampNeg))) (ty := .object RX3) hx hb hcell ((hks.1.2 5 _ rfl).1 _ _) rfl (fun q => by cases q) (m_inA hin) (by rw [arrV_read _ _ (m_inS hin).2]; rfl) rfl rfl hd K
      · rw [e9] at hcell
        exact W.aald (v := mv cst b (.ref (h_r h a j.toNatClampNeg))) (ty := .object RX0) hx hb hcell ((hks.1.2 6 _ rfl).1 _ _) rfl (fun q => by cases q) (m_inA hin) (by rw [arrV_read _ _ (m_inS hin).2]; rfl) rfl rfl hd K
      · rw [e9] at hcell
        exact W.aald (v := mv cst b (.ref (h_r h a j.toNatClampNeg))) (ty := .array .int) hx hb hcell ((hks.1.2 7 _ rfl).1 _ _) rfl (fun q => by cases q) (m_inA hin) (by rw [arrV_read _ _ (m_inS hin).2]; rfl) rfl rfl hd K
    · cases hs
  · cases hs
theorem z_isarr (hks : KS D tA cst s) {k n : Nat} {f : Nat → Value} (h : m_okk k = true) : ∃ ty, s.isArrayOf (arrV (tA k) n f) ty := by
  rcases m_okk_or h with e9 | e9 | e9 | e9 | e9 | e9 | e9 | e9 <;> subst e9
  · exact ⟨_, (hks.1.2 0 _ rfl).1 _ _⟩
  · exact ⟨_, (hks.1.2 1 _ rfl).1 _ _⟩
  · exact ⟨_, (hks.1.2 2 _ rfl).1 _ _⟩
  · exact ⟨_, (hks.1.2 3 _ rfl).1 _ _⟩
  · exact ⟨_, (hks.1.2 4 _ rfl).1 _ _⟩
  · exact ⟨_, (hks.1.2 5 _ rfl).1 _ _⟩
  · exact ⟨_, (hks.1.2 6 _ rfl).1 _ _⟩
  · exact ⟨_, (hks.1.2 7 _ rfl).1 _ _⟩
theorem z_alen (C : SC p s m args meth c R i D tA cst b) (hR : HR D tA cst b s h H) (hl : lv_has ls (m_lc i) (ml cst b lv)) (hd : decode (m_m i).2.2.1 pc = .ok (.arraylength, 1)) (hs : e_alen pc lv st h = some (.inl S)) : PS p l e R s m args below meth c H locs cells slots Q i cst b h pc ls st S := by
  obtain ⟨hx, hb, hml, hown, hts, hlocks, hini, hfr, hlo9, hks, hc, hr⟩ := C
  unfold e_alen at hs
  split at hs
  · next a r =>
    split at hs
    · next hk =>
      cases hs
      refine ⟨rfl, fun K => ?_⟩
      have K := K ls hl
      show W p l e R s m args below meth c H locs cells slots Q (F0 m pc ls (mv cst b (.ref a) :: r.map (mv cst b)))
      rcases (Nat.lt_or_ge a 16).symm with ha | ha
      · obtain ⟨ho, hcell, -⟩ := hR.arr ha (by omega)
        obtain ⟨ty, hty⟩ := z_isarr hks ho
        rw [mv_dyn ha]
        exact W.alen (n := Int32.ofNat (h_k h a).2) hx hb hcell hty (by rw [arrV_size]) rfl rfl hd K
      · have hq := hR.2.2.2.1 a (by omega)
        have ha0 : a ≠ 0 := by
          intro e9
          rw [e9] at hk
          have := hR.2.2.2.2.2
          omega
        rw [mv_cst ha0 (by omega)]
        unfold m_cst at hq
        split at hq
        · omega
        · obtain ⟨r9, cell, q1, q2, q3, q4, q5, q6, q7, q8⟩ := hq
          rw [q1]
          exact W.alen (n := Int32.ofNat (h_k h a).2) hx hb q3 q4 q7 rfl rfl hd K
        · obtain ⟨r9, cell, q1, q2, q3, q4, q5, q6, q7, q8⟩ := hq
          rw [q1]
          exact W.alen (n := Int32.ofNat (h_k h a).2) hx hb q3 q4 q7 rfl rfl hd K
        · omega
        · exact hq.elim
    · cases hs
  · cases hs
-- behind a store into a row
theorem z_st {a j : Nat} {v : Value} {h' : MH} {H' : Heap} (hR : HR D tA cst b s h H) (ha : 16 ≤ a) (hk : 20 ≤ (h_k h a).1) (e1 : H'[b + (a - 16)]? = some ((arrV (tA (h_k h a).1) (h_k h a).2 (m_av cst b h a (h_k h a).1)).setSlot j v)) (e2 : H'.size = H.size) (e3 : ∀ q, q ≠ b + (a - 16) → H'[q]? = H[q]?)
    (hn : h_n h' = h_n h) (hkk : h_k h' = h_k h) (ho : ∀ x, x ≠ a → h_i h' x = h_i h x ∧ h_l h' x = h_l h x ∧ h_r h' x = h_r h x) (hv : ∀ z, updV (m_av cst b h a (h_k h a).1) j v z = m_av cst b h' a (h_k h a).1 z) (hf : (h_k h a).1 = 21 → ∀ z, fits .byte (.int (h_i h' a z)) = true) : HR D tA cst b s h' H' := by
  obtain ⟨ho9, -, -⟩ := hR.arr ha hk
  refine hR.upd ha hn hkk ho e2 e3 (Or.inr ⟨by rw [hkk]; exact ho9, ?_, by rw [hkk]; exact hf⟩)
  rw [hkk, e1, arrV_store, show updV (m_av cst b h a (h_k h a).1) j v = m_av cst b h' a (h_k h a).1 from funext hv]
theorem z_iast (C : SC p s m args meth c R i D tA cst b) (hR : HR D tA cst b s h H) (hlo : ∀ q ∈ locs, b ≤ q.base) (hl : lv_has ls (m_lc i) (ml cst b lv)) (hd : decode (m_m i).2.2.1 pc = .ok (.iastore, 1)) (hs : e_iast pc lv st h = some (.inl S)) : HS p l e R s m args below meth c H locs cells slots Q i D tA cst b h pc ls st S := by
  obtain ⟨hx, hb, hml, hown, hts, hlocks, hini, hfr, hlo9, hks, hc, hr⟩ := C
  unfold e_iast at hs
  split at hs
  · next x j a r =>
    split at hs
    · next hk =>
      obtain ⟨ha, hk, hin⟩ := hk
      cases hs
      refine ⟨⟨rfl, rfl⟩, fun K => ?_⟩
      show W p l e R s m args below meth c H locs cells slots Q (F0 m pc ls (.int x :: .int j :: mv cst b (.ref a) :: r.map (mv cst b)))
      obtain ⟨-, hcell, -⟩ := hR.arr ha (by omega)
      rw [mv_dyn ha]
      refine W.iast hx hb hcell (by rw [hk]; exact (hks.1.2 0 _ rfl).1 _ _) (fun q => by cases q) (m_inA hin) rfl rfl hd (fun H' e1 e2 e3 => ?_)
      refine K H' _ ls (z_st hR ha (by omega) e1 e2 e3 rfl rfl (fun y hy => ⟨if_neg hy, rfl, rfl⟩) (fun z => ?_) (fun q => by omega)) (z_loc hlo (Nat.le_add_right b _)) hl
      rw [hk]
      unfold updV m_av h_si h_i
      by_cases e9 : z = j.toNatClampNeg
      · simp [e9, m_u]
      · simp [e9, m_u]
    · cases hs
  · cases hs
theorem z_last (C : SC p s m args meth c R i D tA cst b) (hR : HR D tA cst b s h H) (hlo : ∀ q ∈ locs, b ≤ q.base) (hl : lv_has ls (m_lc i) (ml cst b lv)) (hd : decode (m_m i).2.2.1 pc = .ok (.lastore, 1)) (hs : e_last pc lv st h = some (.inl S)) : HS p l e R s m args below meth c H locs cells slots Q i D tA cst b h pc ls st S := by
  obtain ⟨hx, hb, hml, hown, hts, hlocks, hini, hfr, hlo9, hks, hc, hr⟩ := C
  unfold e_last at hs
  split at hs
  · next x j a r =>
    split at hs
    · next hk =>
      obtain ⟨ha, hk, hin⟩ := hk
      cases hs
      refine ⟨⟨rfl, rfl⟩, fun K => ?_⟩
      show W p l e R s m args below meth c H locs cells slots Q (F0 m pc ls (.long x :: .int j :: mv cst b (.ref a) :: r.map (mv cst b)))
      obtain ⟨-, hcell, -⟩ := hR.arr ha (by omega)
      rw [mv_dyn ha]
      refine W.last hx hb hcell (by rw [hk]; exact (hks.1.2 3 _ rfl).1 _ _) (fun q => by cases q) (m_inA hin) rfl rfl hd (fun H' e1 e2 e3 => ?_)
      refine K H' _ ls (z_st hR ha (by omega) e1 e2 e3 rfl rfl (fun y hy => ⟨rfl, if_neg hy, rfl⟩) (fun z => ?_) (fun q => by omega)) (z_loc hlo (Nat.le_add_right b _)) hl
      rw [hk]
      unfold updV m_av h_sl h_l
      by_cases e9 : z = j.toNatClampNeg
      · simp [e9, m_u]
      · simp [e9, m_u]
    · cases hs
  · cases hs
theorem z_fitb (x : Int32) : fits .byte (.int x.toInt8.toInt32) = true := pk_fb x
theorem z_bast (C : SC p s m args meth c R i D tA cst b) (hR : HR D tA cst b s h H) (hlo : ∀ q ∈ locs, b ≤ q.base) (hl : lv_has ls (m_lc i) (ml cst b lv)) (hd : decode (m_m i).2.2.1 pc = .ok (.bastore, 1)) (hs : e_bast pc lv st h = some (.inl S)) : HS p l e R s m args below meth c H locs cells slots Q i D tA cst b h pc ls st S := by
  obtain ⟨hx, hb, hml, hown, hts, hlocks, hini, hfr, hlo9, hks, hc, hr⟩ := C
  unfold e_bast at hs
  split at hs
  · next x j a r =>
    split at hs
    · next hk =>
      obtain ⟨ha, hk, hin⟩ := hk
      cases hs
      refine ⟨⟨rfl, rfl⟩, fun K => ?_⟩
      show W p l e R s m args below meth c H locs cells slots Q (F0 m pc ls (.int x :: .int j :: mv cst b (.ref a) :: r.map (mv cst b)))
      obtain ⟨-, hcell, hfit⟩ := hR.arr ha (by omega)
      rw [mv_dyn ha]
      refine W.bast hx hb hcell (by rw [hk]; exact (hks.1.2 1 _ rfl).1 _ _) (fun q => by cases q) (m_inA hin) rfl rfl hd (fun H' e1 e2 e3 => ?_)
      refine K H' _ ls (z_st hR ha (by omega) e1 e2 e3 rfl rfl (fun y hy => ⟨if_neg hy, rfl, rfl⟩) (fun z => ?_) (fun _ z => ?_)) (z_loc hlo (Nat.le_add_right b _)) hl
      · rw [hk, narrow_byte]
        unfold updV m_av h_si h_i
        by_cases e9 : z = j.toNatClampNeg
        · simp [e9, m_u]
        · simp [e9, m_u]
      · have h7 := hfit hk z
        unfold h_si h_i at *
        by_cases e9 : z = j.toNatClampNeg
        · simp only [m_u, e9, if_true]
          exact z_fitb x
        · simpa [m_u, e9] using h7
    · split at hs
      · next hk =>
        obtain ⟨ha, hk, hin⟩ := hk
        cases hs
        refine ⟨⟨rfl, rfl⟩, fun K => ?_⟩
        show W p l e R s m args below meth c H locs cells slots Q (F0 m pc ls (.int x :: .int j :: mv cst b (.ref a) :: r.map (mv cst b)))
        obtain ⟨-, hcell, -⟩ := hR.arr ha (by omega)
        rw [mv_dyn ha]
        refine W.zast hx hb hcell (by rw [hk]; exact (hks.1.2 2 _ rfl).1 _ _) (fun q => by cases q) (m_inA hin) rfl rfl hd (fun H' e1 e2 e3 => ?_)
        refine K H' _ ls (z_st hR ha (by omega) e1 e2 e3 rfl rfl (fun y hy => ⟨if_neg hy, rfl, rfl⟩) (fun z => ?_) (fun q => by omega)) (z_loc hlo (Nat.le_add_right b _)) hl
        rw [hk]
        unfold updV m_av h_si h_i
        by_cases e9 : z = j.toNatClampNeg
        · simp [e9, m_u, narrow]
        · simp [e9, m_u]
      · cases hs
  · cases hs
theorem z_objc {x : Nat} {ci : Nat} {r : vw_C} (hks : KS D tA cst s) (hR : HR D tA cst b s h H) (hk : (h_k h x).1 = ci + 1) (hc : ci < 10) (hq : m_cl[ci]? = some r) : ∃ (cv : Cell) (kC : Class), H[b + (x - 16)]? = some cv ∧ (∀ q, cv.vm ≠ .statics q) ∧ s.vm.classes[cv.cls]? = some kC ∧ s.vm.assignable cv.cls (D.1 ci) = true ∧ s.vm.classes[D.1 ci]? = some kC ∧ s.vm.findClass r.1 = some cv.cls ∧ cv.vm.isStatics = false := by
  obtain ⟨ha, cell, g1, g2, g3, -⟩ := hR.obj hk hc
  have hcls := (hks.1.1 ci r hq).2
  obtain ⟨kC, hkC, -⟩ := hcls.2
  exact ⟨cell, kC, g1, (fun q h => by rw [g3] at h; cases h), (by rw [g2]; exact hkC), (by rw [g2]; exact va_assign hcls), hkC, (by rw [g2]; exact hcls.1), (by rw [g3]; rfl)⟩
theorem z_aast (C : SC p s m args meth c R i D tA cst b) (hR : HR D tA cst b s h H) (hlo : ∀ q ∈ locs, b ≤ q.base) (hl : lv_has ls (m_lc i) (ml cst b lv)) (hd : decode (m_m i).2.2.1 pc = .ok (.aastore, 1)) (hs : e_aast pc lv st h = some (.inl S)) : HS p l e R s m args below meth c H locs cells slots Q i D tA cst b h pc ls st S := by
  obtain ⟨hx, hb, hml, hown, hts, hlocks, hini, hfr, hlo9, hks, hc, hr⟩ := C
  unfold e_aast at hs
  split at hs
  · next x j a r =>
    split at hs
    · next hk =>
      obtain ⟨ha, hk, hin, hx16, hkx⟩ := hk
      cases hs
      refine ⟨⟨rfl, rfl⟩, fun K => ?_⟩
      show W p l e R s m args below meth c H locs cells slots Q (F0 m pc ls (mv cst b (.ref x) :: .int j :: mv cst b (.ref a) :: r.map (mv cst b)))
      obtain ⟨-, hcell, -⟩ := hR.arr ha (by omega)
      rw [mv_dyn ha, mv_dyn hx16]
      have key : ∀ (t0 ci : Nat) (C9 : String) (r9 : vw_C), (m_tys tA)[t0]? = some (tA (h_k h a).1, .object C9) → m_cl[ci]? = some r9 → r9.1 = C9 → (h_k h x).1 = ci + 1 → ci < 10 → W p l e R s m args below meth c H locs cells slots Q (F0 m pc ls (.ref (b + (x - 16)) :: .int j :: .ref (b + (a - 16)) :: r.map (mv cst b))) := by
        intro t0 ci C9 r9 ht0 hq hr9 hkc hc10
        obtain ⟨cv, kC, g1, g2, g3, g4, g5, g6, -⟩ := z_objc hks hR hkc hc10 hq
        obtain ⟨kA, comp, k1, k2, k3, -⟩ := (hks.1.2 t0 _ ht0).2
        have hcomp : comp = D.1 ci := by
          have h7 := (hks.1.1 ci r9 hq).2.1
          rw [hr9] at h7
          exact Option.some.inj (k3.symm.trans h7)
        subst hcomp
        refine W.aast hx hb hcell (fun q h => by cases h) (fun h => by cases h) k1 k2 rfl g5 ⟨(m_inS hin).1, by rw [arrV_size]; exact (m_inS hin).2⟩ g1 g2 g3 g4 rfl rfl hd (fun H' e1 e2 e3 => ?_)
        refine K H' _ ls (z_st hR ha (by omega) e1 e2 e3 rfl rfl (fun y hy => ⟨rfl, rfl, if_neg hy⟩) (fun z => ?_) (fun q => by omega)) (z_loc hlo (Nat.le_add_right b _)) hl
        have n1 : ¬ (h_k h a).1 < 25 := by omega
        have n2 : ¬ (h_k h a).1 = 25 := by omega
        unfold updV m_av h_sr h_r
        by_cases e9 : z = j.toNatClampNeg
        · simp only [e9, m_u, n1, n2, if_true, if_false]
          exact (mv_dyn hx16).symm
        · simp [e9, m_u, n1, n2]
      have hk4 : (h_k h a).1 = 30 ∨ (h_k h a).1 = 31 ∨ (h_k h a).1 = 32 := by omega
      rcases hk4 with e9 | e9 | e9
      · rw [e9] at hkx
        exact key 4 6 RX6 (RX6, TX6, 6) (by rw [e9]; rfl) rfl rfl hkx (by omega)
      · rw [e9] at hkx
        exact key 5 3 RX3 (RX3, TX3, 14) (by rw [e9]; rfl) rfl rfl hkx (by omega)
      · rw [e9] at hkx
        exact key 6 0 RX0 (RX0, TX0, 3) (by rw [e9]; rfl) rfl rfl hkx (by omega)
    · cases hs
  · cases hs
end SIMH
end
section
-- statics and String constants, by their entries
theorem m_KSF : ∀ (k : Nat) (o : String) (l : List (Nat × Nat)), m_own[k]? = some o → m_sfl[k]? = some l → ∀ e ∈ l, (o = "PastHeaps$Reader" ∧ e = (70, 2)) ∨ (o = "java/lang/String" ∧ e = (38, 1)) ∨ (o = "java/lang/String" ∧ e = (1053, 3))
  | 0, _, _, h1, h2 => by cases h1; cases h2; decide +kernel
  | 1, _, _, h1, h2 => by cases h1; cases h2; decide +kernel
  | 2, _, _, h1, h2 => by cases h1; cases h2; decide +kernel
  | 3, _, _, h1, h2 => by cases h1; cases h2; decide +kernel
  | 4, _, _, h1, h2 => by cases h1; cases h2; decide +kernel
  | 5, _, _, h1, h2 => by cases h1; cases h2; decide +kernel
  | 6, _, _, h1, h2 => by cases h1; cases h2; decide +kernel
  | 7, _, _, h1, h2 => by cases h1; cases h2; decide +kernel
  | 8, _, _, h1, h2 => by cases h1; cases h2; decide +kernel
  | 9, _, _, h1, h2 => by cases h1; cases h2; decide +kernel
  | 10, _, _, h1, h2 => by cases h1; cases h2; decide +kernel
  | 11, _, _, h1, h2 => by cases h1; cases h2; decide +kernel
  | 12, _, _, h1, h2 => by cases h1; cases h2; decide +kernel
  | 13, _, _, h1, h2 => by cases h1; cases h2; decide +kernel
  | 14, _, _, h1, h2 => by cases h1; cases h2; decide +kernel
  | 15, _, _, h1, h2 => by cases h1; cases h2; decide +kernel
  | 16, _, _, h1, h2 => by cases h1; cases h2; decide +kernel
  | 17, _, _, h1, h2 => by cases h1; cases h2; decide +kernel
  | 18, _, _, h1, h2 => by cases h1; cases h2; decide +kernel
  | k + 19, _, _, h1, h2 => by simp [m_own] at h1
theorem m_KSS : ∀ (k : Nat) (o : String) (l : List (Nat × Nat)), m_own[k]? = some o → m_sck[k]? = some l → ∀ e ∈ l, ∃ k, k < m_strs.length ∧ e.2 = 2 + k ∧ (m_strs.map (fun q => (q.1, q.2.1)))[k]? = some (o, e.1)
  | 0, _, _, h1, h2 => by cases h1; cases h2; decide +kernel
  | 1, _, _, h1, h2 => by cases h1; cases h2; decide +kernel
  | 2, _, _, h1, h2 => by cases h1; cases h2; decide +kernel
  | 3, _, _, h1, h2 => by cases h1; cases h2; decide +kernel
  | 4, _, _, h1, h2 => by cases h1; cases h2; decide +kernel
  | 5, _, _, h1, h2 => by cases h1; cases h2; decide +kernel
  | 6, _, _, h1, h2 => by cases h1; cases h2; decide +kernel
  | 7, _, _, h1, h2 => by cases h1; cases h2; decide +kernel
  | 8, _, _, h1, h2 => by cases h1; cases h2; decide +kernel
  | 9, _, _, h1, h2 => by cases h1; cases h2; decide +kernel
  | 10, _, _, h1, h2 => by cases h1; cases h2; decide +kernel
  | 11, _, _, h1, h2 => by cases h1; cases h2; decide +kernel
  | 12, _, _, h1, h2 => by cases h1; cases h2; decide +kernel
  | 13, _, _, h1, h2 => by cases h1; cases h2; decide +kernel
  | 14, _, _, h1, h2 => by cases h1; cases h2; decide +kernel
  | 15, _, _, h1, h2 => by cases h1; cases h2; decide +kernel
  | 16, _, _, h1, h2 => by cases h1; cases h2; decide +kernel
  | 17, _, _, h1, h2 => by cases h1; cases h2; decide +kernel
  | 18, _, _, h1, h2 => by cases h1; cases h2; decide +kernel
  | k + 19, _, _, h1, h2 => by simp [m_own] at h1
theorem m_ksf1 : Cond.fieldLink "java/lang/String" 38 "java/lang/String" "COMPACT_STRINGS" "Z" ∈ lw_tbl := List.mem_of_getElem? (i := 383) (by decide +kernel)
def m_sfi1 : String × Nat := ("java/lang/String", 38)
theorem m_ksf2 : Cond.fieldLinkNest "PastHeaps$Reader" 70 "PastHeaps" "LIMITS" "[I" "PastHeaps" ∈ lw_tbl := List.mem_of_getElem? (i := 448) (by decide +kernel)
def m_sfi2 : String × Nat := ("PastHeaps$Reader", 70)
theorem m_ksf3 : Cond.fieldLink "java/lang/String" 1053 "jdk/internal/util/Preconditions" "SIOOBE_FORMATTER" "Ljava/util/function/BiFunction;" ∈ lw_tbl := List.mem_of_getElem? (i := 399) (by decide +kernel)
def m_sfi3 : String × Nat := ("java/lang/String", 1053)
theorem m_kjmin : (m_name m_jmin = Lib.Math.min.name ∧ m_jmin ≠ 900 ∧ m_jmin ≠ 901) ∧ Cond.static Lib.Math.min.name ∈ lw_tbl ∧ Cond.initialized "java/lang/Math" ∈ lw_tbl := ⟨by decide +kernel, List.mem_of_getElem? (i := 341) (by decide +kernel), List.mem_of_getElem? (i := 112) (by decide +kernel)⟩
set_option maxRecDepth 100000 in
theorem m_kcmin : Cond.code Lib.Math.min.name Lib.Math.min.code 2 (some .int) ∈ lw_tbl := List.mem_of_getElem? (i := 342) rfl
theorem m_kjmax : (m_name m_jmax = Lib.Math.max.name ∧ m_jmax ≠ 900 ∧ m_jmax ≠ 901) ∧ Cond.static Lib.Math.max.name ∈ lw_tbl ∧ Cond.initialized "java/lang/Math" ∈ lw_tbl := ⟨by decide +kernel, List.mem_of_getElem? (i := 589) (by decide +kernel), List.mem_of_getElem? (i := 112) (by decide +kernel)⟩
set_option maxRecDepth 100000 in
theorem m_kcmax : Cond.code Lib.Math.max.name Lib.Math.max.code 2 (some .int) ∈ lw_tbl := List.mem_of_getElem? (i := 590) rfl
theorem m_kjmaxl : (m_name m_jmaxl = Lib.MathLoose.max_long.x ∧ m_jmaxl ≠ 900 ∧ m_jmaxl ≠ 901) ∧ Cond.static Lib.MathLoose.max_long.x ∈ lw_tbl ∧ Cond.initialized "java/lang/Math" ∈ lw_tbl := ⟨by decide +kernel, List.mem_of_getElem? (i := 984) (by decide +kernel), List.mem_of_getElem? (i := 112) (by decide +kernel)⟩
set_option maxRecDepth 100000 in
theorem m_kcmaxl : Cond.code Lib.MathLoose.max_long.x Lib.MathLoose.max_long.code 4 (some .long) ∈ lw_tbl := List.mem_of_getElem? (i := 985) rfl
theorem m_kjminl : (m_name m_jminl = Lib.MathLoose.min_long.x ∧ m_jminl ≠ 900 ∧ m_jminl ≠ 901) ∧ Cond.static Lib.MathLoose.min_long.x ∈ lw_tbl ∧ Cond.initialized "java/lang/Math" ∈ lw_tbl := ⟨by decide +kernel, List.mem_of_getElem? (i := 987) (by decide +kernel), List.mem_of_getElem? (i := 112) (by decide +kernel)⟩
set_option maxRecDepth 100000 in
theorem m_kcminl : Cond.code Lib.MathLoose.min_long.x Lib.MathLoose.min_long.code 4 (some .long) ∈ lw_tbl := List.mem_of_getElem? (i := 988) rfl
theorem m_mem1 {j : Nat} (h0 : 0 < j) (h : j < 292) : m_m j ∈ m_meths_0.drop 1 ++ (m_meths_1 ++ (m_meths_2 ++ (m_meths_3 ++ (m_meths_4 ++ (m_meths_5 ++ (m_meths_6 ++ (m_meths_7 ++ (m_meths_8 ++ (m_meths_9 ++ (m_meths_10 ++ (m_meths_11 ++ (m_meths_12)))))))))))) := by
  have hl : m_meths.length = 292 := by decide +kernel
  have e9 : m_meths.drop 1 = m_meths_0.drop 1 ++ (m_meths_1 ++ (m_meths_2 ++ (m_meths_3 ++ (m_meths_4 ++ (m_meths_5 ++ (m_meths_6 ++ (m_meths_7 ++ (m_meths_8 ++ (m_meths_9 ++ (m_meths_10 ++ (m_meths_11 ++ (m_meths_12)))))))))))) := rfl
  rw [← e9]
  refine List.mem_of_getElem? (i := j - 1) ?_
  rw [List.getElem?_drop, show 1 + (j - 1) = j by omega]
  unfold m_m
  rw [List.getD_eq_getElem?_getD, List.getElem?_eq_getElem (by omega)]
  rfl
theorem m_KC (j : Nat) (h0 : 0 < j) (h : j < 292) : m_cw (m_m j) ∈ lw_tbl := (show ∀ q ∈ m_meths_0.drop 1 ++ (m_meths_1 ++ (m_meths_2 ++ (m_meths_3 ++ (m_meths_4 ++ (m_meths_5 ++ (m_meths_6 ++ (m_meths_7 ++ (m_meths_8 ++ (m_meths_9 ++ (m_meths_10 ++ (m_meths_11 ++ (m_meths_12)))))))))))), m_cw q ∈ lw_tbl from (fun q h => (List.mem_append.mp h).elim ((fun q hq => m_kc0 _ (List.mem_map.mpr ⟨q, hq, rfl⟩)) q) ((fun q h => (List.mem_append.mp h).elim ((fun q hq => m_kc1 _ (List.mem_map.mpr ⟨q, hq, rfl⟩)) q) ((fun q h => (List.mem_append.mp h).elim ((fun q hq => m_kc2 _ (List.mem_map.mpr ⟨q, hq, rfl⟩)) q) ((fun q h => (List.mem_append.mp h).elim ((fun q hq => m_kc3 _ (List.mem_map.mpr ⟨q, hq, rfl⟩)) q) ((fun q h => (List.mem_append.mp h).elim ((fun q hq => m_kc4 _ (List.mem_map.mpr ⟨q, hq, rfl⟩)) q) ((fun q h => (List.mem_append.mp h).elim ((fun q hq => m_kc5 _ (List.mem_map.mpr ⟨q, hq, rfl⟩)) q) ((fun q h => (List.mem_append.mp h).elim ((fun q hq => m_kc6 _ (List.mem_map.mpr ⟨q, hq, rfl⟩)) q) ((fun q h => (List.mem_append.mp h).elim ((fun q hq => m_kc7 _ (List.mem_map.mpr ⟨q, hq, rfl⟩)) q) ((fun q h => (List.mem_append.mp h).elim ((fun q hq => m_kc8 _ (List.mem_map.mpr ⟨q, hq, rfl⟩)) q) ((fun q h => (List.mem_append.mp h).elim ((fun q hq => m_kc9 _ (List.mem_map.mpr ⟨q, hq, rfl⟩)) q) ((fun q h => (List.mem_append.mp h).elim ((fun q hq => m_kc10 _ (List.mem_map.mpr ⟨q, hq, rfl⟩)) q) ((fun q h => (List.mem_append.mp h).elim ((fun q hq => m_kc11 _ (List.mem_map.mpr ⟨q, hq, rfl⟩)) q) ((fun q hq => m_kc12 _ (List.mem_map.mpr ⟨q, hq, rfl⟩)) q)) q)) q)) q)) q)) q)) q)) q)) q)) q)) q)) q))) _ (m_mem1 h0 h)
theorem m_KW (j : Nat) (h0 : 0 < j) (h : j < 292) : ∀ w ∈ m_kw (m_m j), w ∈ lw_tbl := (show ∀ q ∈ m_meths_0.drop 1 ++ (m_meths_1 ++ (m_meths_2 ++ (m_meths_3 ++ (m_meths_4 ++ (m_meths_5 ++ (m_meths_6 ++ (m_meths_7 ++ (m_meths_8 ++ (m_meths_9 ++ (m_meths_10 ++ (m_meths_11 ++ (m_meths_12)))))))))))), ∀ w ∈ m_kw q, w ∈ lw_tbl from (fun q h => (List.mem_append.mp h).elim ((fun (q : m_M) (hq : q ∈ m_meths_0.drop 1) (w : Cond) (hw : w ∈ m_kw q) => m_kw0 w (List.mem_flatMap.mpr ⟨q, hq, hw⟩)) q) ((fun q h => (List.mem_append.mp h).elim ((fun (q : m_M) (hq : q ∈ m_meths_1) (w : Cond) (hw : w ∈ m_kw q) => m_kw1 w (List.mem_flatMap.mpr ⟨q, hq, hw⟩)) q) ((fun q h => (List.mem_append.mp h).elim ((fun (q : m_M) (hq : q ∈ m_meths_2) (w : Cond) (hw : w ∈ m_kw q) => m_kw2 w (List.mem_flatMap.mpr ⟨q, hq, hw⟩)) q) ((fun q h => (List.mem_append.mp h).elim ((fun (q : m_M) (hq : q ∈ m_meths_3) (w : Cond) (hw : w ∈ m_kw q) => m_kw3 w (List.mem_flatMap.mpr ⟨q, hq, hw⟩)) q) ((fun q h => (List.mem_append.mp h).elim ((fun (q : m_M) (hq : q ∈ m_meths_4) (w : Cond) (hw : w ∈ m_kw q) => m_kw4 w (List.mem_flatMap.mpr ⟨q, hq, hw⟩)) q) ((fun q h => (List.mem_append.mp h).elim ((fun (q : m_M) (hq : q ∈ m_meths_5) (w : Cond) (hw : w ∈ m_kw q) => m_kw5 w (List.mem_flatMap.mpr ⟨q, hq, hw⟩)) q) ((fun q h => (List.mem_append.mp h).elim ((fun (q : m_M) (hq : q ∈ m_meths_6) (w : Cond) (hw : w ∈ m_kw q) => m_kw6 w (List.mem_flatMap.mpr ⟨q, hq, hw⟩)) q) ((fun q h => (List.mem_append.mp h).elim ((fun (q : m_M) (hq : q ∈ m_meths_7) (w : Cond) (hw : w ∈ m_kw q) => m_kw7 w (List.mem_flatMap.mpr ⟨q, hq, hw⟩)) q) ((fun q h => (List.mem_append.mp h).elim ((fun (q : m_M) (hq : q ∈ m_meths_8) (w : Cond) (hw : w ∈ m_kw q) => m_kw8 w (List.mem_flatMap.mpr ⟨q, hq, hw⟩)) q) ((fun q h => (List.mem_append.mp h).elim ((fun (q : m_M) (hq : q ∈ m_meths_9) (w : Cond) (hw : w ∈ m_kw q) => m_kw9 w (List.mem_flatMap.mpr ⟨q, hq, hw⟩)) q) ((fun q h => (List.mem_append.mp h).elim ((fun (q : m_M) (hq : q ∈ m_meths_10) (w : Cond) (hw : w ∈ m_kw q) => m_kw10 w (List.mem_flatMap.mpr ⟨q, hq, hw⟩)) q) ((fun q h => (List.mem_append.mp h).elim ((fun (q : m_M) (hq : q ∈ m_meths_11) (w : Cond) (hw : w ∈ m_kw q) => m_kw11 w (List.mem_flatMap.mpr ⟨q, hq, hw⟩)) q) ((fun (q : m_M) (hq : q ∈ m_meths_12) (w : Cond) (hw : w ∈ m_kw q) => m_kw12 w (List.mem_flatMap.mpr ⟨q, hq, hw⟩)) q)) q)) q)) q)) q)) q)) q)) q)) q)) q)) q)) q))) _ (m_mem1 h0 h)
theorem m_nameq {j : Nat} (h : j < 292) (h1 : ¬ j = 900) (h2 : ¬ j = 901) : m_name j = (m_m j).2.1 := by
  have hl : m_meths.length = 292 := by decide +kernel
  unfold m_name m_m
  rw [if_neg h1, if_neg h2, List.getD_eq_getElem?_getD, List.getElem?_eq_getElem (by omega)]
  rfl
end
section
-- WHAT MAKES CELLS, COPIES, READS WHAT STANDS STILL
section SIMN
variable {p : Program} {l : Launch} {e : Env} {R : Room} {s : State} {m : MethodId} {args : Array Value} {below : List Frame} {meth : Method} {c : Code} {Q : State → Prop} {i : Nat} {D : va_G} {tA : Nat → ClassId} {cst : Nat → Value} {b : Nat}
variable {H : Heap} {locs : List Loc} {cells slots : Nat} {pc : Nat} {ls : Array Slot} {lv : List (Nat × Value)} {st : List Value} {h : MH} {S : MS}
-- what any step owes
def GS (p : Program) (l : Launch) (e : Env) (R : Room) (s : State) (m : MethodId) (args : Array Value) (below : List Frame) (meth : Method) (c : Code) (H : Heap) (locs : List Loc) (cells slots : Nat) (Q : State → Prop) (i : Nat) (D : va_G) (tA : Nat → ClassId) (cst : Nat → Value) (b : Nat) (h : MH) (pc : Nat) (ls : Array Slot) (st : List Value) (S : MS) : Prop :=
  (h_n h ≤ h_n S.2.2.2 ∧ h_z h ≤ h_z S.2.2.2) ∧ (cells + (h_n S.2.2.2 - h_n h) ≤ R.cells → slots + (h_z S.2.2.2 - h_z h) ≤ R.slots → (∀ H' locs' ls', HR D tA cst b s S.2.2.2 H' → (∀ q ∈ locs', b ≤ q.base) → lv_has ls' (m_lc i) (ml cst b S.2.1) → W p l e R s m args below meth c H' locs' (cells + (h_n S.2.2.2 - h_n h)) (slots + (h_z S.2.2.2 - h_z h)) Q (F0 m S.1 ls' (S.2.2.1.map (mv cst b)))) → W p l e R s m args below meth c H locs cells slots Q (F0 m pc ls (st.map (mv cst b))))
theorem PS.gs (hR : HR D tA cst b s h H) (hlo : ∀ q ∈ locs, b ≤ q.base) (q : PS p l e R s m args below meth c H locs cells slots Q i cst b h pc ls st S) : GS p l e R s m args below meth c H locs cells slots Q i D tA cst b h pc ls st S := by
  obtain ⟨q1, q2⟩ := q
  unfold GS
  rw [q1]
  refine ⟨⟨Nat.le_refl _, Nat.le_refl _⟩, fun _ _ K => q2 fun ls' hl' => ?_⟩
  have := K H locs ls' hR hlo hl'
  rw [Nat.sub_self, Nat.sub_self] at this
  exact this
theorem HS.gs (q : HS p l e R s m args below meth c H locs cells slots Q i D tA cst b h pc ls st S) : GS p l e R s m args below meth c H locs cells slots Q i D tA cst b h pc ls st S := by
  obtain ⟨⟨q1, q3⟩, q2⟩ := q
  unfold GS
  rw [q1, q3]
  refine ⟨⟨Nat.le_refl _, Nat.le_refl _⟩, fun _ _ K => q2 fun H' locs' ls' a1 a2 a3 => ?_⟩
  have := K H' locs' ls' a1 a2 a3
  rw [Nat.sub_self, Nat.sub_self] at this
  exact this
theorem z_grow {k len sz : Nat} {H' : Heap} (hR : HR D tA cst b s h H) (hz : H'.size = H.size + 1) (ho : ∀ x, x < H.size → H'[x]? = H[x]?) (hc : m_cell D tA cst b (h_new h k len sz) (16 + h_n h) H') : HR D tA cst b s (h_new h k len sz) H' := by
  refine hR.grow 1 rfl (fun x hx => ?_) (fun x hx => ?_) hz ho (fun x h1 h2 => ?_)
  · have h9 : h_n (h_new h k len sz) = h_n h + 1 := rfl
    exact if_neg (show ¬ x = 16 + h.1.1 from fun q => by
      have : h_n h = h.1.1 := rfl
      omega)
  · have h9 : ¬ x = 16 + h.1.1 := fun q => by
      have : h_n h = h.1.1 := rfl
      omega
    exact ⟨if_neg h9, if_neg h9, if_neg h9⟩
  · have h9 : h_n (h_new h k len sz) = h_n h + 1 := rfl
    have e9 : x = 16 + h_n h := by omega
    rw [e9]
    exact hc
theorem z_newk {k len sz : Nat} : h_k (h_new h k len sz) (16 + h_n h) = (k, len) := if_pos rfl
theorem z_newi {k len sz : Nat} : h_i (h_new h k len sz) (16 + h_n h) = fun _ => 0 := if_pos rfl
theorem z_newl {k len sz : Nat} : h_l (h_new h k len sz) (16 + h_n h) = fun _ => 0 := if_pos rfl
theorem z_newr {k len sz : Nat} : h_r (h_new h k len sz) (16 + h_n h) = fun _ => 0 := if_pos rfl
theorem z_newrow {k len sz : Nat} {H' : Heap} {cA : ClassId} {v : Value} (hR : HR D tA cst b s h H) (hk : m_okk k = true) (hcA : cA = tA k) (hv : v = if k < 25 then .int 0 else if k = 25 then .long 0 else .null) (e1 : H'[H.size]? = some (arrV cA len (fun _ => v))) (hz : H'.size = H.size + 1) (ho : ∀ x, x < H.size → H'[x]? = H[x]?) : HR D tA cst b s (h_new h k len sz) H' := by
  refine z_grow hR hz ho (Or.inr ⟨by rw [z_newk]; exact hk, ?_, fun _ j => ?_⟩)
  · rw [z_newk, show b + (16 + h_n h - 16) = H.size by rw [hR.1]; omega, e1, hcA]
    have e9 : (fun _ : Nat => v) = m_av cst b (h_new h k len sz) (16 + h_n h) k := by
      funext j
      unfold m_av
      rw [z_newi, z_newl, z_newr, hv]
      rfl
    rw [e9]
  · rw [z_newi]
    rfl
theorem z_newst (hR : HR D tA cst b s h H) {a : Nat} (ha : a = H.size) : mv cst b (.ref (16 + h_n h)) = .ref a := by
  rw [mv_dyn (by omega), ha, hR.1, Nat.add_sub_cancel_left]
theorem z_newa (C : SC p s m args meth c R i D tA cst b) (hR : HR D tA cst b s h H) (hlo : ∀ q ∈ locs, b ≤ q.base) (hl : lv_has ls (m_lc i) (ml cst b lv)) {t : ArrayType} (hd : decode (m_m i).2.2.1 pc = .ok (.newarray t, 2)) (hs : e_newa t pc lv st h = some (.inl S)) : GS p l e R s m args below meth c H locs cells slots Q i D tA cst b h pc ls st S := by
  obtain ⟨hx, hb, hml, hown, hts, hlocks, hini, hfr, hlo9, hks, hc, hr⟩ := C
  unfold e_newa at hs
  split at hs
  · next n r =>
    split at hs
    · next hk =>
      obtain ⟨hk0, hn, hN⟩ := hk
      cases hs
      have f1 : h_n (h_new h (m_ak t) n.toNatClampNeg n.toNatClampNeg) - h_n h = 1 := by
        show h_n h + 1 - h_n h = 1
        omega
      have f2 : h_z (h_new h (m_ak t) n.toNatClampNeg n.toNatClampNeg) - h_z h = n.toNatClampNeg := by
        show h_z h + n.toNatClampNeg - h_z h = _
        omega
      refine ⟨⟨Nat.le_succ _, Nat.le_add_right _ _⟩, fun hc1 hs1 K => ?_⟩
      dsimp only at hc1 hs1 K
      rw [f1] at hc1
      rw [f2] at hs1
      rw [f1, f2] at K
      show W p l e R s m args below meth c H locs cells slots Q (F0 m pc ls (.int n :: r.map (mv cst b)))
      have fin : ∀ (H' : Heap) (cA : ClassId) (v : Value), m_okk (m_ak t) = true → cA = tA (m_ak t) → (v = if m_ak t < 25 then .int 0 else if m_ak t = 25 then .long 0 else .null) → H'[H.size]? = some (arrV cA n.toNatClampNeg (fun _ => v)) → H'.size = H.size + 1 → (∀ q, q < H.size → H'[q]? = H[q]?) → W p l e R s m args below meth c H' locs (cells + 1) (slots + n.toNatClampNeg) Q (F0 m (pc + 2) ls (.ref H.size :: r.map (mv cst b))) := by
        intro H' cA v g1 g2 g3 g4 g5 g6
        have K2 := K H' locs ls (z_newrow hR g1 g2 g3 g4 g5 g6) hlo hl
        rw [List.map_cons, z_newst hR rfl] at K2
        exact K2
      cases t with
      | int => exact va_newaK hx hb (hts _ (m_tgI (m_karr _ (List.mem_of_getElem? (i := 0) rfl)) rfl)) rfl hd rfl hn rfl (by show _ * 4 ≤ _; omega) hc1 hs1 rfl (fun H' cA e1 z1 o1 _ hNm => fin H' cA _ rfl (Option.some.inj (hNm.symm.trans (hks.1.2 0 _ rfl).2)) rfl e1 z1 o1)
      | byte => exact va_newaK hx hb (hts _ (m_tgI (m_karr _ (List.mem_of_getElem? (i := 1) rfl)) rfl)) rfl hd rfl hn rfl (by show _ * 1 ≤ _; omega) hc1 hs1 rfl (fun H' cA e1 z1 o1 _ hNm => fin H' cA _ rfl (Option.some.inj (hNm.symm.trans (hks.1.2 1 _ rfl).2)) rfl e1 z1 o1)
      | boolean => exact va_newaK hx hb (hts _ (m_tgI (m_karr _ (List.mem_of_getElem? (i := 2) rfl)) rfl)) rfl hd rfl hn rfl (by show _ * 1 ≤ _; omega) hc1 hs1 rfl (fun H' cA e1 z1 o1 _ hNm => fin H' cA _ rfl (Option.some.inj (hNm.symm.trans (hks.1.2 2 _ rfl).2)) rfl e1 z1 o1)
      | long => exact va_newaK hx hb (hts _ (m_tgI (m_karr _ (List.mem_of_getElem? (i := 3) rfl)) rfl)) rfl hd rfl hn rfl (by show _ * 8 ≤ _; omega) hc1 hs1 rfl (fun H' cA e1 z1 o1 _ hNm => fin H' cA _ rfl (Option.some.inj (hNm.symm.trans (hks.1.2 3 _ rfl).2)) rfl e1 z1 o1)
      | _ => exact absurd rfl hk0
    · cases hs
  · cases hs
theorem z_new (C : SC p s m args meth c R i D tA cst b) (hR : HR D tA cst b s h H) (hlo : ∀ q ∈ locs, b ≤ q.base) (hl : lv_has ls (m_lc i) (ml cst b lv)) {idx : Nat} (hd : decode (m_m i).2.2.1 pc = .ok (.new idx, 3)) (hs : e_new i idx pc lv st h = some (.inl S)) : GS p l e R s m args below meth c H locs cells slots Q i D tA cst b h pc ls st S := by
  obtain ⟨hx, hb, hml, hown, hts, hlocks, hini, hfr, hlo9, hks, hc, hr⟩ := C
  unfold e_new at hs
  split at hs
  · next ci hf =>
    split at hs
    · next hc10 =>
      cases hs
      obtain ⟨q, hq, hN, hin, -, ⟨ty, hty, hty2⟩, -, hinst, hinit, -⟩ := m_clf ci hc10
      have hw := m_ccw hf
      unfold m_clw m_cnm at hw
      rw [show m_cl[((idx, ci) : Nat × Nat).2]? = some q from hq] at hw
      have f1 : h_n (h_new h (ci + 1) (m_nf ci) (m_nf ci)) - h_n h = 1 := by
        show h_n h + 1 - h_n h = 1
        omega
      have f2 : h_z (h_new h (ci + 1) (m_nf ci) (m_nf ci)) - h_z h = m_nf ci := by
        show h_z h + m_nf ci - h_z h = _
        omega
      refine ⟨⟨Nat.le_succ _, Nat.le_add_right _ _⟩, fun hc1 hs1 K => ?_⟩
      dsimp only at hc1 hs1 K
      rw [f1] at hc1
      rw [f2, hN] at hs1
      rw [f1, f2] at K
      have hKn := hks.1.1 ci q hq
      refine W.newcK hx hb hown (hts _ (m_tgI hw rfl)) (hts _ hinst) (hts _ hinit) rfl hd hc1 hs1 hKn.2.1 rfl (fun H' kC hkC e1 z1 o1 => ?_)
      have hO := u_born ty hts hin hKn hkC e1 hty
      have K2 := K H' locs ls (z_grow hR z1 o1 (Or.inl ?_)) hlo hl
      · rw [List.map_cons, z_newst hR rfl] at K2
        rw [← hN]
        exact K2
      · rw [z_newk]
        refine ⟨Nat.succ_pos _, by show ci + 1 < 11; omega, ?_⟩
        show t_OB (b + (16 + h_n h - 16)) (D.1 ci) (m_nf ci) (D.2 ci) H' _
        rw [show b + (16 + h_n h - 16) = H.size by rw [hR.1]; omega, hN]
        refine hO.to (fun k hk => ?_)
        show defaultValue (ty k) = m_fv cst b (h_new h (ci + 1) (m_nf ci) (m_nf ci)) (16 + h_n h) ci k
        obtain ⟨t1, t2, t3⟩ := hty2 k hk
        unfold m_fv
        rw [z_newi, z_newl, z_newr]
        split
        · next h0 => rw [t1 h0]; rfl
        · next h0 => rw [t2 h0]; rfl
        · next h0 h1 =>
          have h9 := t3 h0 h1
          cases hty9 : ty k <;> rw [hty9] at h9 <;> first | rfl | exact absurd h9 (by decide)
    · cases hs
  · cases hs
theorem z_anew (C : SC p s m args meth c R i D tA cst b) (hR : HR D tA cst b s h H) (hlo : ∀ q ∈ locs, b ≤ q.base) (hl : lv_has ls (m_lc i) (ml cst b lv)) {idx : Nat} (hd : decode (m_m i).2.2.1 pc = .ok (.anewarray idx, 3)) (hs : e_anew i idx pc lv st h = some (.inl S)) : GS p l e R s m args below meth c H locs cells slots Q i D tA cst b h pc ls st S := by
  obtain ⟨hx, hb, hml, hown, hts, hlocks, hini, hfr, hlo9, hks, hc, hr⟩ := C
  unfold e_anew at hs
  split at hs
  · next n r ci hf =>
    split at hs
    · next hk =>
      obtain ⟨hk0, hn, hN⟩ := hk
      cases hs
      have hw := m_ccw hf
      have f1 : h_n (h_new h (m_ek ci) n.toNatClampNeg n.toNatClampNeg) - h_n h = 1 := by
        show h_n h + 1 - h_n h = 1
        omega
      have f2 : h_z (h_new h (m_ek ci) n.toNatClampNeg n.toNatClampNeg) - h_z h = n.toNatClampNeg := by
        show h_z h + n.toNatClampNeg - h_z h = _
        omega
      refine ⟨⟨Nat.le_succ _, Nat.le_add_right _ _⟩, fun hc1 hs1 K => ?_⟩
      dsimp only at hc1 hs1 K
      rw [f1] at hc1
      rw [f2] at hs1
      rw [f1, f2] at K
      show W p l e R s m args below meth c H locs cells slots Q (F0 m pc ls (.int n :: r.map (mv cst b)))
      have fin : ∀ (cA : ClassId), m_okk (m_ek ci) = true → 30 ≤ m_ek ci → cA = tA (m_ek ci) → W p l e R s m args below meth c (H.push { cls := cA, slots := Array.replicate n.toNatClampNeg .null, vm := .none }) locs (cells + 1) (slots + n.toNatClampNeg) Q (F0 m (pc + 3) ls (.ref H.size :: r.map (mv cst b))) := by
        intro cA g1 g0 g2
        have K2 := K _ locs ls (z_newrow (v := .null) hR g1 g2 (by rw [if_neg (by omega), if_neg (by omega)]) (H' := H.push { cls := cA, slots := Array.replicate n.toNatClampNeg .null, vm := .none }) (by rw [← arrV_new]; simp) (by simp) (fun q hq => by rw [Array.getElem?_push, if_neg (Nat.ne_of_lt hq)])) hlo hl
        rw [List.map_cons, z_newst hR rfl] at K2
        exact K2
      have hcc : ci = 6 ∨ ci = 3 ∨ ci = 0 := by
        unfold m_ek at hk0
        split at hk0
        · exact Or.inl rfl
        · exact Or.inr (Or.inl rfl)
        · exact Or.inr (Or.inr rfl)
        · exact absurd rfl hk0
      rcases hcc with e9 | e9 | e9
      · subst e9
        exact W.anew (C := RX6) hx hb hown (hts _ (m_tgI hw rfl)) (va_AO.use hks.2.2.1) rfl hd rfl hn (by omega) hc1 hs1 (fun cA kA comp g1 g2 g3 g4 => fin cA rfl (by decide) (by obtain ⟨_, _, -, -, -, q4⟩ := (hks.1.2 4 _ rfl).2; exact Option.some.inj (g1.symm.trans q4)))
      · subst e9
        exact W.anew (C := RX3) hx hb hown (hts _ (m_tgI hw rfl)) (va_AO.use hks.2.2.2.1) rfl hd rfl hn (by omega) hc1 hs1 (fun cA kA comp g1 g2 g3 g4 => fin cA rfl (by decide) (by obtain ⟨_, _, -, -, -, q4⟩ := (hks.1.2 5 _ rfl).2; exact Option.some.inj (g1.symm.trans q4)))
      · subst e9
        exact W.anew (C := RX0) hx hb hown (hts _ (m_tgI hw rfl)) (va_AO.use hks.2.2.2.2.1) rfl hd rfl hn (by omega) hc1 hs1 (fun cA kA comp g1 g2 g3 g4 => fin cA rfl (by decide) (by obtain ⟨_, _, -, -, -, q4⟩ := (hks.1.2 6 _ rfl).2; exact Option.some.inj (g1.symm.trans q4)))
    · cases hs
  · cases hs
theorem z_gets (C : SC p s m args meth c R i D tA cst b) (hR : HR D tA cst b s h H) (hl : lv_has ls (m_lc i) (ml cst b lv)) {idx : Nat} (hd : decode (m_m i).2.2.1 pc = .ok (.getstatic idx, 3)) (hs : e_gets i idx pc lv st h = some (.inl S)) : PS p l e R s m args below meth c H locs cells slots Q i cst b h pc ls st S := by
  obtain ⟨hx, hb, hml, hown, hts, hlocks, hini, hfr, hlo9, hks, hc, hr⟩ := C
  unfold e_gets at hs
  have hw : ∀ v, m_sf i idx = some v → ((m_m i).2.1.cls = m_sfi1.1 ∧ idx = m_sfi1.2 ∧ v = 1) ∨ ((m_m i).2.1.cls = m_sfi2.1 ∧ idx = m_sfi2.2 ∧ v = 2) ∨ ((m_m i).2.1.cls = m_sfi3.1 ∧ idx = m_sfi3.2 ∧ v = 3) := by
    intro v hv
    have h1 := m_lk_mem hv
    cases hl : m_sfl[m_ow i]? with
    | none =>
      rw [List.getD_eq_getElem?_getD, hl] at h1
      cases h1
    | some l =>
      rw [List.getD_eq_getElem?_getD, hl] at h1
      have h2 := m_KSF _ _ _ (m_own_ok i) hl _ h1
      rcases h2 with ⟨g1, g2⟩ | ⟨g1, g2⟩ | ⟨g1, g2⟩ <;> (cases g2; first | exact Or.inl ⟨g1, rfl, rfl⟩ | exact Or.inr (Or.inl ⟨g1, rfl, rfl⟩) | exact Or.inr (Or.inr ⟨g1, rfl, rfl⟩))
  split at hs
  · next hv =>
    cases hs
    refine ⟨rfl, fun K => ?_⟩
    rcases hw _ hv with ⟨g1, g2, g3⟩ | ⟨-, -, g3⟩ | ⟨-, -, g3⟩
    · rw [g1] at hown
      rw [g2] at hd
      obtain ⟨cf, kf, fi, f, a, cell, h1, h2, h3, h4, h5, h6, h7, h8⟩ := hR.2.2.2.2.1.1
      exact W.gets hx hb hown (hts _ (m_tgI m_ksf1 rfl)) h1 h2 h3 h4 h5 (fun e9 => by rw [e9] at h6; cases h6) h7 rfl hd (K ls hl)
    · omega
    · omega
  · next hv =>
    cases hs
    refine ⟨rfl, fun K => ?_⟩
    rcases hw _ hv with ⟨-, -, g3⟩ | ⟨g1, g2, g3⟩ | ⟨-, -, g3⟩
    · omega
    · rw [g1] at hown
      rw [g2] at hd
      obtain ⟨cf, kf, fi, f, a, cell, h1, h2, h3, h4, h5, h6, h7, h8⟩ := hR.2.2.2.2.1.2.1
      have K2 := K ls hl
      rw [show (List.map (mv cst b) ((.ref 1 : Value) :: st)) = cst 1 :: st.map (mv cst b) from by rw [List.map_cons, mv_cst (by decide) (by decide)]] at K2
      exact va_WgetsN hx hb hown (va_Nw.use rfl (hks.2.1 _ m_ksf2 rfl)) h1 h2 h3 h4 h5 (fun e9 => by rw [e9] at h6; cases h6) h7 rfl hd K2
    · omega
  · next hv =>
    cases hs
    refine ⟨rfl, fun K => ?_⟩
    rcases hw _ hv with ⟨-, -, g3⟩ | ⟨-, -, g3⟩ | ⟨g1, g2, g3⟩
    · omega
    · omega
    · rw [g1] at hown
      rw [g2] at hd
      obtain ⟨cf, kf, fi, f, a, cell, h1, h2, h3, h4, h5, h6, h7, h8⟩ := hR.2.2.2.2.1.2.2
      have K2 := K ls hl
      rw [show (List.map (mv cst b) ((.ref 15 : Value) :: st)) = cst 15 :: st.map (mv cst b) from by rw [List.map_cons, mv_cst (by decide) (by decide)]] at K2
      exact W.gets hx hb hown (hts _ (m_tgI m_ksf3 rfl)) h1 h2 h3 h4 h5 (fun e9 => by rw [e9] at h6; cases h6) h7 rfl hd K2
  · cases hs
theorem z_ldc (C : SC p s m args meth c R i D tA cst b) (hl : lv_has ls (m_lc i) (ml cst b lv)) {idx : Nat} (hd : decode (m_m i).2.2.1 pc = .ok (.ldc idx, 2)) (hs : e_ldc 2 i idx pc lv st h = some (.inl S)) : PS p l e R s m args below meth c H locs cells slots Q i cst b h pc ls st S := by
  obtain ⟨hx, hb, hml, hown, hts, hlocks, hini, hfr, hlo9, hks, hc, hr⟩ := C
  unfold e_ldc at hs
  split at hs
  · next x hf =>
    exact x_push hl (fun k => lv_ldc hx hb hown (hts _ (m_tgI (m_icw' hf) rfl)) hd k) hs
  · rw [if_pos rfl] at hs
    split at hs
    · next a hf =>
      refine x_push hl (fun k => ?_) hs
      have h1 := m_lk_mem hf
      cases hl9 : m_sck[m_ow i]? with
      | none =>
        rw [List.getD_eq_getElem?_getD, hl9] at h1
        cases h1
      | some l =>
        rw [List.getD_eq_getElem?_getD, hl9] at h1
        obtain ⟨k9, g1, g2, g3⟩ := m_KSS _ _ _ (m_own_ok i) hl9 _ h1
        obtain ⟨q, g4⟩ : ∃ q, m_strs[k9]? = some q := ⟨_, List.getElem?_eq_getElem g1⟩
        rw [List.getElem?_map, g4] at g3
        have g3 := Option.some.inj g3
        obtain ⟨r9, g5, g6⟩ := hks.2.2.2.2.2.2 k9 q g4
        have g7 : q.1 = (m_m i).2.1.cls := congrArg Prod.fst g3
        have g8 : q.2.1 = idx := congrArg Prod.snd g3
        rw [g7, g8] at g6
        have hlen : m_strs.length = 6 := by decide
        have g2 : a = 2 + k9 := g2
        rw [g2, mv_cst (by omega) (by omega), g5] at k
        exact va_ldcS hx hb hown g6 hd k
    · cases hs
theorem z_ldcw (C : SC p s m args meth c R i D tA cst b) (hl : lv_has ls (m_lc i) (ml cst b lv)) {idx : Nat} (hd : decode (m_m i).2.2.1 pc = .ok (.ldc_w idx, 3)) (hs : e_ldc 3 i idx pc lv st h = some (.inl S)) : PS p l e R s m args below meth c H locs cells slots Q i cst b h pc ls st S := by
  obtain ⟨hx, hb, hml, hown, hts, hlocks, hini, hfr, hlo9, hks, hc, hr⟩ := C
  unfold e_ldc at hs
  split at hs
  · next x hf =>
    exact x_push hl (fun k => lv_ldcw hx hb hown (hts _ (m_tgI (m_icw' hf) rfl)) hd k) hs
  · rw [if_neg (by decide)] at hs
    cases hs
theorem z_ldc2 (C : SC p s m args meth c R i D tA cst b) (hl : lv_has ls (m_lc i) (ml cst b lv)) {idx : Nat} (hd : decode (m_m i).2.2.1 pc = .ok (.ldc2_w idx, 3)) (hs : m_ex i pc (.ldc2_w idx) lv st h = some (.inl S)) : PS p l e R s m args below meth c H locs cells slots Q i cst b h pc ls st S := by
  obtain ⟨hx, hb, hml, hown, hts, hlocks, hini, hfr, hlo9, hks, hc, hr⟩ := C
  simp only [m_ex] at hs
  split at hs
  · next x hf =>
    exact x_push hl (fun k => lv_ldc2 hx hb hown (hts _ (m_tgI (m_jcw hf) rfl)) hd k) hs
  · cases hs
end SIMN
end
section
-- COPIES OF ROWS, CALLS
theorem m_kobjT : ∀ l ∈ m_mlk, ∀ e ∈ l, e.2.2 = 900 ∨ e.2.2 = 901 → e.2.1 = 0 := by decide +kernel
theorem m_kobjn {i idx nest j : Nat} {o : String} (ho : m_own[m_ow i]? = some o) (h : m_ml i idx = some (nest, j)) : j = 900 ∨ j = 901 → nest = 0 := by
  intro hj
  have h1 := m_lk_mem h
  cases hl : m_mlk[m_ow i]? with
  | none =>
    rw [List.getD_eq_getElem?_getD, hl] at h1
    cases h1
  | some l =>
    rw [List.getD_eq_getElem?_getD, hl] at h1
    exact m_kobjT l (List.mem_of_getElem? hl) _ h1 hj
section SIMC
variable {p : Program} {l : Launch} {e : Env} {R : Room} {s : State} {m : MethodId} {args : Array Value} {below : List Frame} {meth : Method} {c : Code} {Q : State → Prop} {i : Nat} {D : va_G} {tA : Nat → ClassId} {cst : Nat → Value} {b : Nat}
variable {H : Heap} {locs : List Loc} {cells slots : Nat} {pc : Nat} {ls : Array Slot} {lv : List (Nat × Value)} {st : List Value} {h : MH} {S : MS}
theorem z_nn {z : Int32} (hz : ¬ z < 0) : z.toInt = (z.toNatClampNeg : Int) := by
  have hz0 : (0 : Int) ≤ z.toInt := by
    have := Int32.not_lt.mp hz
    simpa using Int32.le_iff_toInt_le.mp this
  show z.toInt = ((z.toInt.toNat : Nat) : Int)
  omega
-- a copy of whole numbers from a row to a row of the same kind
theorem z_cpW (C : SC p s m args meth c R i D tA cst b) (hls : ls.size = m_lc i) {idx a0 a1 n0 n1 : Nat} {f g : Nat → Int32} {c0 : ClassId} {ty : FieldType} (h0 : H[a0]? = some (vp_cell c0 (n0, .inl f))) (h1 : H[a1]? = some (vp_cell c0 (n1, .inl g))) (hA : ArrOfT s c0 ty) (hprim : refKind ty = false) {sp dp n : Int32} {rest : List Value} (g1 : ¬ sp < 0) (g2 : ¬ dp < 0) (g3 : ¬ n < 0) (g4 : sp.toNatClampNeg + n.toNatClampNeg ≤ n0) (g5 : dp.toNatClampNeg + n.toNatClampNeg ≤ n1) (hfit : ∀ k, k < n.toNatClampNeg → fits ty (.int (f (sp.toNatClampNeg + k))) = true)
    (hframes : 1 ≤ R.frames) (hlocals : (rest.map fun v => v.category).sum + 18 ≤ R.locals) (hlink : (Cond.methodLink (m_m i).2.1.cls idx arraycopyName).before args s = true) (hd : decode (m_m i).2.2.1 pc = .ok (.invokestatic idx, 3))
    (kk : ∀ (H1 : Heap) (L : List Loc), H1[a1]? = some (vp_cell c0 (n1, .inl (va_cpy f g sp.toNatClampNeg dp.toNatClampNeg n.toNatClampNeg))) → H1.size = H.size → (∀ q, q ≠ a1 → H1[q]? = H[q]?) → (∀ q ∈ L, q.base = a1) → W p l e R s m args below meth c H1 (locs ++ L) cells slots Q (F0 m (pc + 3) ls rest)) : W p l e R s m args below meth c H locs cells slots Q (F0 m pc ls (.int n :: .int dp :: .ref a1 :: .int sp :: .ref a0 :: rest)) := by
  obtain ⟨hx, hb, hml, hown, hts, hlocks, hini, hfr, hlo9, hks, hc, hr⟩ := C
  intro T hT X
  obtain ⟨-, k0, hk0, cm0, hkk0⟩ := hA n0 (fun j => .int (f j))
  obtain ⟨-, k1, hk1, cm1, hkk1⟩ := hA n1 (fun j => .int (g j))
  obtain ⟨vm', X', step⟩ := X.arraycopy hx hown hlink (hts _ (m_tgI (m_karr _ (List.mem_of_getElem? (i := 8) rfl)) rfl)) (hts _ (m_tgI (m_karr _ (List.mem_of_getElem? (i := 9) rfl)) rfl)) (hts _ (m_tgI (m_karr _ (List.mem_of_getElem? (i := 10) rfl)) rfl)) (src := a0) (dst := a1) (cs := vp_cell c0 (n0, .inl f)) (cd := vp_cell c0 (n1, .inl g)) (srcPos := sp) (destPos := dp) (n := n) (by rw [hT]; exact h0) (by rw [hT]; exact h1)
    (fun _ h => by cases h) (fun _ h => by cases h) (fun h => by cases h) (fun h => by cases h) hk0 hk1 hkk0 hkk1 (by simp [hprim]) g1 g2 g3
    (by rw [z_nn g1, z_nn g3]; show ¬ _ > ((arrV c0 n0 (fun j => .int (f j))).slots.size : Int); rw [arrV_size]; omega)
    (by rw [z_nn g2, z_nn g3]; show ¬ _ > ((arrV c0 n1 (fun j => .int (g j))).slots.size : Int); rw [arrV_size]; omega)
    (fun vm₁ _ k hk => by
      have e9 : (vp_cell c0 (n0, .inl f)).slots.getD (sp.toNatClampNeg + k) .null = .int (f (sp.toNatClampNeg + k)) := by
        show (arrV c0 n0 (fun j => .int (f j))).slots.getD _ _ = _
        rw [Array.getD_eq_getD_getElem?, arrV_read _ _ (by omega)]
        rfl
      refine ⟨?_, ?_⟩
      · rw [e9]
        exact hfit k hk
      · rw [e9]
        exact trivial)
    (g := F0 m pc ls (.int n :: .int dp :: .ref a1 :: .int sp :: .ref a0 :: rest)) rfl (by rw [hml]; exact hls) (rest := rest) rfl (by rw [hb]; exact hd) hframes (by have hz9 : nativeFrameWords "java/lang/System" "arraycopy" 5 = 7 := (by decide); show 2 * 0 + _ + _ ≤ _; omega)
  have e1 : copied (vp_cell c0 (n0, .inl f)) (vp_cell c0 (n1, .inl g)) sp dp n = vp_cell c0 (n1, .inl (va_cpy f g sp.toNatClampNeg dp.toNatClampNeg n.toNatClampNeg)) := va_copied (fun z => .int z) c0 c0 f g g4
  rw [e1] at X' step
  have hl : a1 < H.size := (Array.getElem?_eq_some_iff.mp h1).1
  have hheap : ((T.setVm vm').setCell a1 (vp_cell c0 (n1, .inl (va_cpy f g sp.toNatClampNeg dp.toNatClampNeg n.toNatClampNeg)))).heap = H.setIfInBounds a1 (vp_cell c0 (n1, .inl (va_cpy f g sp.toNatClampNeg dp.toNatClampNeg n.toNatClampNeg))) := by rw [← hT]; rfl
  obtain ⟨t, b1, b2⟩ := kk _ _ (show (H.setIfInBounds a1 _)[a1]? = some _ by simp [Array.getElem?_setIfInBounds, hl]) (by simp) (fun q hq => by simp [Array.getElem?_setIfInBounds, Ne.symm hq]) (fun q hq => by
    obtain ⟨z, -, hz⟩ := List.mem_map.mp hq
    rw [← hz]) _ hheap X'
  exact ⟨t, step t b1, b2⟩
theorem z_cpWL (C : SC p s m args meth c R i D tA cst b) (hls : ls.size = m_lc i) {idx a0 a1 n0 n1 : Nat} {f g : Nat → Int64} {c0 : ClassId} (h0 : H[a0]? = some (vp_cell c0 (n0, .inr (.inl f)))) (h1 : H[a1]? = some (vp_cell c0 (n1, .inr (.inl g)))) (hA : ArrOfT s c0 .long) {sp dp n : Int32} {rest : List Value} (g1 : ¬ sp < 0) (g2 : ¬ dp < 0) (g3 : ¬ n < 0) (g4 : sp.toNatClampNeg + n.toNatClampNeg ≤ n0) (g5 : dp.toNatClampNeg + n.toNatClampNeg ≤ n1)
    (hframes : 1 ≤ R.frames) (hlocals : (rest.map fun v => v.category).sum + 18 ≤ R.locals) (hlink : (Cond.methodLink (m_m i).2.1.cls idx arraycopyName).before args s = true) (hd : decode (m_m i).2.2.1 pc = .ok (.invokestatic idx, 3))
    (kk : ∀ (H1 : Heap) (L : List Loc), H1[a1]? = some (vp_cell c0 (n1, .inr (.inl (va_cpy f g sp.toNatClampNeg dp.toNatClampNeg n.toNatClampNeg)))) → H1.size = H.size → (∀ q, q ≠ a1 → H1[q]? = H[q]?) → (∀ q ∈ L, q.base = a1) → W p l e R s m args below meth c H1 (locs ++ L) cells slots Q (F0 m (pc + 3) ls rest)) : W p l e R s m args below meth c H locs cells slots Q (F0 m pc ls (.int n :: .int dp :: .ref a1 :: .int sp :: .ref a0 :: rest)) := by
  obtain ⟨hx, hb, hml, hown, hts, hlocks, hini, hfr, hlo9, hks, hc, hr⟩ := C
  intro T hT X
  obtain ⟨-, k0, hk0, cm0, hkk0⟩ := hA n0 (fun j => .long (f j))
  obtain ⟨-, k1, hk1, cm1, hkk1⟩ := hA n1 (fun j => .long (g j))
  obtain ⟨vm', X', step⟩ := X.arraycopy hx hown hlink (hts _ (m_tgI (m_karr _ (List.mem_of_getElem? (i := 8) rfl)) rfl)) (hts _ (m_tgI (m_karr _ (List.mem_of_getElem? (i := 9) rfl)) rfl)) (hts _ (m_tgI (m_karr _ (List.mem_of_getElem? (i := 10) rfl)) rfl)) (src := a0) (dst := a1) (cs := vp_cell c0 (n0, .inr (.inl f))) (cd := vp_cell c0 (n1, .inr (.inl g))) (srcPos := sp) (destPos := dp) (n := n) (by rw [hT]; exact h0) (by rw [hT]; exact h1)
    (fun _ h => by cases h) (fun _ h => by cases h) (fun h => by cases h) (fun h => by cases h) hk0 hk1 hkk0 hkk1 (by simp [refKind]) g1 g2 g3
    (by rw [z_nn g1, z_nn g3]; show ¬ _ > ((arrV c0 n0 (fun j => .long (f j))).slots.size : Int); rw [arrV_size]; omega)
    (by rw [z_nn g2, z_nn g3]; show ¬ _ > ((arrV c0 n1 (fun j => .long (g j))).slots.size : Int); rw [arrV_size]; omega)
    (fun vm₁ _ k hk => by
      have e9 : (vp_cell c0 (n0, .inr (.inl f))).slots.getD (sp.toNatClampNeg + k) .null = .long (f (sp.toNatClampNeg + k)) := by
        show (arrV c0 n0 (fun j => .long (f j))).slots.getD _ _ = _
        rw [Array.getD_eq_getD_getElem?, arrV_read _ _ (by omega)]
        rfl
      refine ⟨?_, ?_⟩
      · rw [e9]
        rfl
      · rw [e9]
        exact trivial)
    (g := F0 m pc ls (.int n :: .int dp :: .ref a1 :: .int sp :: .ref a0 :: rest)) rfl (by rw [hml]; exact hls) (rest := rest) rfl (by rw [hb]; exact hd) hframes (by have hz9 : nativeFrameWords "java/lang/System" "arraycopy" 5 = 7 := (by decide); show 2 * 0 + _ + _ ≤ _; omega)
  have e1 : copied (vp_cell c0 (n0, .inr (.inl f))) (vp_cell c0 (n1, .inr (.inl g))) sp dp n = vp_cell c0 (n1, .inr (.inl (va_cpy f g sp.toNatClampNeg dp.toNatClampNeg n.toNatClampNeg))) := va_copied (fun z => .long z) c0 c0 f g g4
  rw [e1] at X' step
  have hl : a1 < H.size := (Array.getElem?_eq_some_iff.mp h1).1
  have hheap : ((T.setVm vm').setCell a1 (vp_cell c0 (n1, .inr (.inl (va_cpy f g sp.toNatClampNeg dp.toNatClampNeg n.toNatClampNeg))))).heap = H.setIfInBounds a1 (vp_cell c0 (n1, .inr (.inl (va_cpy f g sp.toNatClampNeg dp.toNatClampNeg n.toNatClampNeg)))) := by rw [← hT]; rfl
  obtain ⟨t, b1, b2⟩ := kk _ _ (show (H.setIfInBounds a1 _)[a1]? = some _ by simp [Array.getElem?_setIfInBounds, hl]) (by simp) (fun q hq => by simp [Array.getElem?_setIfInBounds, Ne.symm hq]) (fun q hq => by
    obtain ⟨z, -, hz⟩ := List.mem_map.mp hq
    rw [← hz]) _ hheap X'
  exact ⟨t, step t b1, b2⟩
theorem z_locL {L : List Loc} {a : Nat} (hlo : ∀ q ∈ locs, b ≤ q.base) (ha : b ≤ a) (hL : ∀ q ∈ L, q.base = a) : ∀ q ∈ locs ++ L, b ≤ q.base := by
  intro q hq
  rcases List.mem_append.mp hq with h1 | h1
  · exact hlo q h1
  · rw [hL q h1]
    exact ha
theorem z_cp (C : SC p s m args meth c R i D tA cst b) (hR : HR D tA cst b s h H) (hlo : ∀ q ∈ locs, b ≤ q.base) (hl : lv_has ls (m_lc i) (ml cst b lv)) {idx : Nat} (hlink : (Cond.methodLink (m_m i).2.1.cls idx arraycopyName).before args s = true) (hd : decode (m_m i).2.2.1 pc = .ok (.invokestatic idx, 3)) (hs : e_cp i pc lv st h = some (.inl S)) : HS p l e R s m args below meth c H locs cells slots Q i D tA cst b h pc ls st S := by
  have hks := C.2.2.2.2.2.2.2.2.2.1
  have hc := C.2.2.2.2.2.2.2.2.2.2.1
  have hfr := C.2.2.2.2.2.2.2.1
  have hlo9 := C.2.2.2.2.2.2.2.2.1
  unfold e_cp at hs
  split at hs
  · next n dp a1 sp a0 r =>
    split at hs
    · next hk =>
      obtain ⟨ha0, ha1, g1, g2, g3, g4, g5, g6, g7, g8⟩ := hk
      split at hs
      · next hk2 =>
        cases hs
        refine ⟨⟨rfl, rfl⟩, fun K => ?_⟩
        show W p l e R s m args below meth c H locs cells slots Q (F0 m pc ls (.int n :: .int dp :: mv cst b (.ref a1) :: .int sp :: mv cst b (.ref a0) :: r.map (mv cst b)))
        rw [mv_dyn ha0, mv_dyn ha1]
        have key : ∀ (k : Nat) (ty : FieldType), (h_k h a0).1 = k → (h_k h a1).1 = k → (k = 20 ∨ k = 21) → ArrOfT s (tA k) ty → refKind ty = false → (∀ j, fits ty (.int (h_i h a0 j)) = true) → W p l e R s m args below meth c H locs cells slots Q (F0 m pc ls (.int n :: .int dp :: .ref (b + (a1 - 16)) :: .int sp :: .ref (b + (a0 - 16)) :: r.map (mv cst b))) := by
          intro k ty e0 e1 hk20 hA hprim hfit
          obtain ⟨-, hc0, -⟩ := hR.arr ha0 (by omega)
          obtain ⟨-, hc1, hf1⟩ := hR.arr ha1 (by omega)
          rw [e0] at hc0
          rw [e1] at hc1
          have n1 : k < 25 := by omega
          have c0 : arrV (tA k) (h_k h a0).2 (m_av cst b h a0 k) = vp_cell (tA k) ((h_k h a0).2, .inl (h_i h a0)) := by
            rw [vp_cell_i]
            congr 1
            funext j
            unfold m_av
            rw [if_pos n1]
          have c1 : arrV (tA k) (h_k h a1).2 (m_av cst b h a1 k) = vp_cell (tA k) ((h_k h a1).2, .inl (h_i h a1)) := by
            rw [vp_cell_i]
            congr 1
            funext j
            unfold m_av
            rw [if_pos n1]
          rw [c0] at hc0
          rw [c1] at hc1
          refine z_cpW C hl.1 hc0 hc1 hA hprim g1 g2 g3 g4 g5 (fun j _ => hfit _) (Nat.le_trans g6 hfr) (by rw [mv_sum hc]; omega) hlink hd (fun H1 L q1 q2 q3 q4 => ?_)
          refine K H1 _ ls (hR.upd ha1 rfl rfl (fun y hy => ⟨if_neg hy, rfl, rfl⟩) q2 q3 (Or.inr ⟨?_, ?_, ?_⟩)) (z_locL hlo (Nat.le_add_right b _) q4) hl
          · show m_okk (h_k h a1).1 = true
            rw [e1]
            rcases hk20 with q | q <;> rw [q] <;> rfl
          · show H1[b + (a1 - 16)]? = some (arrV (tA (h_k h a1).1) (h_k h a1).2 (m_av cst b (h_cpi h a0 a1 sp.toNatClampNeg dp.toNatClampNeg n.toNatClampNeg) a1 (h_k h a1).1))
            rw [e1, q1, vp_cell_i]
            congr 2
            funext j
            unfold m_av
            rw [if_pos n1]
            show _ = Value.int (m_u h.2.2.1 a1 _ a1 j)
            unfold m_u
            rw [if_pos rfl]
            rfl
          · intro h21 j
            have h21 : (h_k h a1).1 = 21 := h21
            show fits .byte (.int (m_u h.2.2.1 a1 _ a1 j)) = true
            unfold m_u
            rw [if_pos rfl]
            split
            · exact (hR.arr ha0 (by omega)).2.2 (by omega) _
            · exact hf1 h21 j
        rcases hk2 with ⟨e0, e1⟩ | ⟨e0, e1⟩
        · exact key 20 .int e0 e1 (Or.inl rfl) (hks.1.2 0 _ rfl).1 rfl (fun j => rfl)
        · exact key 21 .byte e0 e1 (Or.inr rfl) (hks.1.2 1 _ rfl).1 rfl (fun j => (hR.arr ha0 (by omega)).2.2 e0 j)
      · split at hs
        · next hk2 =>
          obtain ⟨e0, e1⟩ := hk2
          cases hs
          refine ⟨⟨rfl, rfl⟩, fun K => ?_⟩
          show W p l e R s m args below meth c H locs cells slots Q (F0 m pc ls (.int n :: .int dp :: mv cst b (.ref a1) :: .int sp :: mv cst b (.ref a0) :: r.map (mv cst b)))
          rw [mv_dyn ha0, mv_dyn ha1]
          obtain ⟨-, hc0, -⟩ := hR.arr ha0 (by omega)
          obtain ⟨-, hc1, -⟩ := hR.arr ha1 (by omega)
          rw [e0] at hc0
          rw [e1] at hc1
          have c0 : arrV (tA 25) (h_k h a0).2 (m_av cst b h a0 25) = vp_cell (tA 25) ((h_k h a0).2, .inr (.inl (h_l h a0))) := by
            rw [vp_cell_l]
            rfl
          have c1 : arrV (tA 25) (h_k h a1).2 (m_av cst b h a1 25) = vp_cell (tA 25) ((h_k h a1).2, .inr (.inl (h_l h a1))) := by
            rw [vp_cell_l]
            rfl
          rw [c0] at hc0
          rw [c1] at hc1
          refine z_cpWL C hl.1 hc0 hc1 (hks.1.2 3 _ rfl).1 g1 g2 g3 g4 g5 (Nat.le_trans g6 hfr) (by rw [mv_sum hc]; omega) hlink hd (fun H1 L q1 q2 q3 q4 => ?_)
          refine K H1 _ ls (hR.upd ha1 rfl rfl (fun y hy => ⟨rfl, if_neg hy, rfl⟩) q2 q3 (Or.inr ⟨?_, ?_, ?_⟩)) (z_locL hlo (Nat.le_add_right b _) q4) hl
          · show m_okk (h_k h a1).1 = true
            rw [e1]
            rfl
          · show H1[b + (a1 - 16)]? = some (arrV (tA (h_k h a1).1) (h_k h a1).2 (m_av cst b (h_cpl h a0 a1 sp.toNatClampNeg dp.toNatClampNeg n.toNatClampNeg) a1 (h_k h a1).1))
            rw [e1, q1, vp_cell_l]
            congr 2
            funext j
            show _ = Value.long (m_u h.2.2.2.1 a1 _ a1 j)
            unfold m_u
            rw [if_pos rfl]
            rfl
          · intro h21
            have h21 : (h_k h a1).1 = 21 := h21
            omega
        · cases hs
    · cases hs
  · cases hs
-- a call that is one step here: Object's constructor, a copy, Math's own
theorem z_call1 (C : SC p s m args meth c R i D tA cst b) (hR : HR D tA cst b s h H) (hlo : ∀ q ∈ locs, b ≤ q.base) (hl : lv_has ls (m_lc i) (ml cst b lv)) {kd idx : Nat} {ins : Instr} (hcl : cells ≤ R.cells) (hsl : slots ≤ R.slots) (hd : decode (m_m i).2.2.1 pc = .ok (ins, 3)) (hi : (kd = 0 ∧ ins = .invokestatic idx) ∨ (kd = 1 ∧ ins = .invokevirtual idx) ∨ (kd = 2 ∧ ins = .invokespecial idx)) (hs : e_call kd i idx pc lv st h = some (.inl S)) : HS p l e R s m args below meth c H locs cells slots Q i D tA cst b h pc ls st S := by
  obtain ⟨hx, hb, hml, hown, hts, hlocks, hini, hfr, hlo9, hks, hc, hr⟩ := id C
  have hmls : c.maxLocals = ls.size := by rw [hml]; exact hl.1.symm
  unfold e_call at hs
  split at hs
  · next nest j hf =>
    have hw := m_mlw hf
    split at hs
    · next hj =>
      subst hj
      split at hs
      · next a r =>
        split at hs
        · next hk =>
          obtain ⟨hk2, ha, g1, g2, g3⟩ := hk
          cases hs
          have hins : ins = .invokespecial idx := by
            rcases hi with ⟨q, -⟩ | ⟨q, -⟩ | ⟨-, q⟩
            · omega
            · omega
            · exact q
          subst hins
          refine ⟨⟨rfl, rfl⟩, fun K => ?_⟩
          show W p l e R s m args below meth c H locs cells slots Q (F0 m pc ls (mv cst b (.ref a) :: r.map (mv cst b)))
          rw [mv_dyn ha]
          have hnest : nest = 0 := by
            exact m_kobjn (m_own_ok i) hf (Or.inl rfl)
          subst hnest
          exact W.objInit hx hb hown (hts _ (m_tgI hw rfl)) (hts _ (m_tgI (m_karr _ (List.mem_of_getElem? (i := 11) rfl)) rfl)) (hts _ (m_tgI m_kobj rfl)) rfl (by rw [hmls]) rfl hd (Nat.le_trans g1 hfr) (by rw [mv_sum hc]; show 2 * 0 + _ + 12 ≤ _; omega) (K H locs ls hR hlo hl)
        · cases hs
      · cases hs
    · split at hs
      · next hj1 hj =>
        subst hj
        split at hs
        · next hk0 =>
          have hins : ins = .invokestatic idx := by
            rcases hi with ⟨-, q⟩ | ⟨q, -⟩ | ⟨q, -⟩
            · exact q
            · omega
            · omega
          subst hins
          have hnest : nest = 0 := m_kobjn (m_own_ok i) hf (Or.inr rfl)
          subst hnest
          exact z_cp C hR hlo hl (hts _ (m_tgI hw rfl)) hd hs
        · cases hs
      · split at hs
        · next hj1 hj2 hj =>
          split at hs
          · next y x r =>
            split at hs
            · next hk =>
              obtain ⟨hk0, hn0, g1, g2⟩ := hk
              subst hn0
              have hins : ins = .invokestatic idx := by
                rcases hi with ⟨-, q⟩ | ⟨q, -⟩ | ⟨q, -⟩
                · exact q
                · omega
                · omega
              subst hins
              cases hs
              refine ⟨⟨rfl, rfl⟩, fun K => ?_⟩
              have K := K H locs ls hR hlo hl
              show W p l e R s m args below meth c H locs cells slots Q (F0 m pc ls (.int y :: .int x :: r.map (mv cst b)))
              have hw' : (Cond.methodLink (m_m i).2.1.cls idx (m_name j)).before args s = true := hts _ (m_tgI hw rfl)
              by_cases hjm : j = m_jmin
              · have K : W p l e R s m args below meth c H locs cells slots Q (F0 m (pc + 3) ls (.int (if j = m_jmin then (if y < x then y else x) else (if x < y then y else x)) :: r.map (mv cst b))) := K
                rw [if_pos hjm] at K
                rw [hjm, m_kjmin.1.1] at hw'
                exact va_mmin hx hb hmls hown hw' (hts _ (m_tgI m_kjmin.2.1 rfl)) (hts _ (m_tgI m_kjmin.2.2 rfl)) (hts _ (m_tgI m_kcmin rfl)) (Nat.le_trans g1 hfr) (by rw [mv_sum hc]; omega) hcl hsl hd K
              · have K : W p l e R s m args below meth c H locs cells slots Q (F0 m (pc + 3) ls (.int (if j = m_jmin then (if y < x then y else x) else (if x < y then y else x)) :: r.map (mv cst b))) := K
                rw [if_neg hjm] at K
                have hjx : j = m_jmax := hj.resolve_left hjm
                rw [hjx, m_kjmax.1.1] at hw'
                exact va_mmax hx hb hmls hown hw' (hts _ (m_tgI m_kjmax.2.1 rfl)) (hts _ (m_tgI m_kjmax.2.2 rfl)) (hts _ (m_tgI m_kcmax rfl)) (Nat.le_trans g1 hfr) (by rw [mv_sum hc]; omega) hcl hsl hd K
            · cases hs
          · cases hs
        · split at hs
          · next hj1 hj2 hj3 hj =>
            split at hs
            · next y x r =>
              split at hs
              · next hk =>
                obtain ⟨hk0, hn0, g1, g2⟩ := hk
                subst hn0
                have hins : ins = .invokestatic idx := by
                  rcases hi with ⟨-, q⟩ | ⟨q, -⟩ | ⟨q, -⟩
                  · exact q
                  · omega
                  · omega
                subst hins
                cases hs
                refine ⟨⟨rfl, rfl⟩, fun K => ?_⟩
                have K := K H locs ls hR hlo hl
                show W p l e R s m args below meth c H locs cells slots Q (F0 m pc ls (.long y :: .long x :: r.map (mv cst b)))
                have hw' : (Cond.methodLink (m_m i).2.1.cls idx (m_name j)).before args s = true := hts _ (m_tgI hw rfl)
                have K : W p l e R s m args below meth c H locs cells slots Q (F0 m (pc + 3) ls (.long (if j = m_jminl then (if y < x then y else x) else (if y < x then x else y)) :: r.map (mv cst b))) := K
                by_cases hjm : j = m_jminl
                · rw [if_pos hjm] at K
                  rw [hjm, m_kjminl.1.1] at hw'
                  exact va_mmin_long hx hb hmls hown hw' (hts _ (m_tgI m_kjminl.2.1 rfl)) (hts _ (m_tgI m_kjminl.2.2 rfl)) (hts _ (m_tgI m_kcminl rfl)) (Nat.le_trans g1 hfr) (by rw [mv_sum hc]; omega) hcl hsl hd K
                · rw [if_neg hjm] at K
                  have hjx : j = m_jmaxl := hj.resolve_left hjm
                  rw [hjx, m_kjmaxl.1.1] at hw'
                  exact va_mmax_long hx hb hmls hown hw' (hts _ (m_tgI m_kjmaxl.2.1 rfl)) (hts _ (m_tgI m_kjmaxl.2.2 rfl)) (hts _ (m_tgI m_kcmaxl rfl)) (Nat.le_trans g1 hfr) (by rw [mv_sum hc]; omega) hcl hsl hd K
              · cases hs
            · cases hs
          · exfalso
            revert hs
            repeat' split
            all_goals simp
  · cases hs
end SIMC
end
section
-- ROWS OF ROWS
section SIMG
variable {p : Program} {l : Launch} {e : Env} {R : Room} {s : State} {m : MethodId} {args : Array Value} {below : List Frame} {meth : Method} {c : Code} {Q : State → Prop} {i : Nat} {D : va_G} {tA : Nat → ClassId} {cst : Nat → Value} {b : Nat}
variable {H : Heap} {locs : List Loc} {cells slots : Nat} {pc : Nat} {ls : Array Slot} {lv : List (Nat × Value)} {st : List Value} {h : MH} {S : MS}
theorem z_outer (cI : ClassId) (N h0 : Nat) : ∀ k : Nat, Jvm.Free.Multi.outerC cI N h0 k = arrV cI N (fun j => if j < k then .ref (h0 + 1 + j) else .null)
  | 0 => by
    show ({ cls := cI, slots := Array.replicate N .null, vm := .none } : Cell) = _
    rw [arrV_new]
    refine congrArg (arrV cI N) (funext fun j => ?_)
    simp
  | k + 1 => by
    show (Jvm.Free.Multi.outerC cI N h0 k).setSlot k (.ref (h0 + 1 + k)) = _
    rw [z_outer cI N h0 k, arrV_store]
    refine congrArg (arrV cI N) (funext fun j => ?_)
    by_cases e9 : j = k
    · subst e9
      simp [updV]
    · by_cases h9 : j < k
      · simp [updV, e9, h9, Nat.lt_succ_of_lt h9]
      · simp [updV, e9, h9, show ¬ j < k + 1 by omega]
theorem z_grid (C : SC p s m args meth c R i D tA cst b) (hR : HR D tA cst b s h H) (hlo : ∀ q ∈ locs, b ≤ q.base) (hl : lv_has ls (m_lc i) (ml cst b lv)) {idx : Nat} (hd : decode (m_m i).2.2.1 pc = .ok (.multianewarray idx 2, 4)) (hs : e_grid i idx pc lv st h = some (.inl S)) : GS p l e R s m args below meth c H locs cells slots Q i D tA cst b h pc ls st S := by
  obtain ⟨hx, hb, hml, hown, hts, hlocks, hini, hfr, hlo9, hks, hc, hr⟩ := C
  unfold e_grid at hs
  split at hs
  · next k n r hf =>
    split at hs
    · next hk =>
      obtain ⟨hn, hk0, hN, hK⟩ := hk
      cases hs
      have hw := m_ccw hf
      have hS1 : h_n h = h.1.1 := rfl
      have f1 : h_n (h_grid h n.toNatClampNeg k.toNatClampNeg) - h_n h = 1 + n.toNatClampNeg := by
        show h_n h + (1 + n.toNatClampNeg) - h_n h = _
        omega
      have f2 : h_z (h_grid h n.toNatClampNeg k.toNatClampNeg) - h_z h = n.toNatClampNeg + n.toNatClampNeg * k.toNatClampNeg := by
        show h_z h + (n.toNatClampNeg + n.toNatClampNeg * k.toNatClampNeg) - h_z h = _
        omega
      refine ⟨⟨Nat.le_add_right _ _, Nat.le_add_right _ _⟩, fun hc1 hs1 K => ?_⟩
      dsimp only at hc1 hs1 K
      rw [f1] at hc1
      rw [f2] at hs1
      rw [f1, f2] at K
      show W p l e R s m args below meth c H locs cells slots Q (F0 m pc ls (.int k :: .int n :: r.map (mv cst b)))
      intro T hT X
      obtain ⟨vm₁, cA, comp, -, fA, fC, hO, -, X', step⟩ := X.multianewarray2F (ty := .int) hx hown (hts _ (m_tgI hw rfl)) (over_moved (Vm.Alike.refl _) hks.2.2.2.2.2.1) (hts _ (m_tgI (m_karr _ (List.mem_of_getElem? (i := 0) rfl)) rfl)) (g := F0 m pc ls (.int k :: .int n :: r.map (mv cst b))) rfl (by rw [hb]; exact hd) rfl hn hk0 (by omega) (by show _ * 4 ≤ _; omega) (by omega) rfl rfl hc1 hs1
      have eA : cA = tA 33 := Option.some.inj (fA.symm.trans (hks.1.2 7 _ rfl).2)
      have eC : comp = tA 20 := Option.some.inj (fC.symm.trans (hks.1.2 0 _ rfl).2)
      subst eA
      subst eC
      generalize hF : Jvm.Free.Multi.fill (T.setVm vm₁) (tA 33) (tA 20) n.toNatClampNeg k.toNatClampNeg (defaultValue .int) n.toNatClampNeg = F at X' step
      have hTh : (T.setVm vm₁).heap = H := hT
      obtain ⟨g1, g2, -, -⟩ := Jvm.Free.Multi.fill_facts (T.setVm vm₁) (tA 33) (tA 20) n.toNatClampNeg k.toNatClampNeg (defaultValue .int) n.toNatClampNeg
      rw [hF, hTh] at g1 g2
      have hold : ∀ x : Nat, x < H.size → F.heap[x]? = H[x]? := fun x hx9 => by
        have := Jvm.Free.Multi.fill_old (T.setVm vm₁) (tA 33) (tA 20) n.toNatClampNeg k.toNatClampNeg (defaultValue .int) (a := x) (by rw [hTh]; exact hx9) n.toNatClampNeg
        rw [hF, hTh] at this
        exact this
      have hrow : ∀ j : Nat, j < n.toNatClampNeg → F.heap[H.size + 1 + j]? = some (arrV (tA 20) k.toNatClampNeg (fun _ => .int 0)) := fun j hj => by
        have := Jvm.Free.Multi.fill_inner (T.setVm vm₁) (tA 33) (tA 20) n.toNatClampNeg k.toNatClampNeg (defaultValue .int) n.toNatClampNeg j hj
        rw [hF, hTh] at this
        rw [this, ← arrV_new]
        rfl
      rw [z_outer] at g2
      have hz := hR.1
      have hR2 : HR D tA cst b s (h_grid h n.toNatClampNeg k.toNatClampNeg) F.heap := by
        have en : h_n (h_grid h n.toNatClampNeg k.toNatClampNeg) = h_n h + (1 + n.toNatClampNeg) := rfl
        refine hR.grow (1 + n.toNatClampNeg) en (fun x hx9 => ?_) (fun x hx9 => ?_) (by rw [g1]; omega) hold (fun x h1 h2 => ?_)
        · show (if x = 16 + h.1.1 then (33, n.toNatClampNeg) else if 16 + h.1.1 < x ∧ x ≤ 16 + h.1.1 + n.toNatClampNeg then (20, k.toNatClampNeg) else h.2.1 x) = h.2.1 x
          rw [if_neg (by omega), if_neg (by omega)]
        · refine ⟨?_, rfl, ?_⟩
          · show (if 16 + h.1.1 ≤ x ∧ x ≤ 16 + h.1.1 + n.toNatClampNeg then (fun _ => 0) else h.2.2.1 x) = h.2.2.1 x
            rw [if_neg (by omega)]
          · show m_u h.2.2.2.2 (16 + h.1.1) _ x = h.2.2.2.2 x
            unfold m_u
            rw [if_neg (by omega)]
        · by_cases ex : x = 16 + h.1.1
          · have ek : h_k (h_grid h n.toNatClampNeg k.toNatClampNeg) x = (33, n.toNatClampNeg) := if_pos ex
            refine Or.inr ⟨by rw [ek]; rfl, ?_, fun q => by rw [ek] at q; cases q⟩
            rw [ek, show b + (x - 16) = H.size by omega, g2]
            congr 2
            funext j
            show _ = mv cst b (.ref (m_u h.2.2.2.2 (16 + h.1.1) (fun i => if i < n.toNatClampNeg then 16 + h.1.1 + 1 + i else 0) x j))
            unfold m_u
            rw [if_pos ex]
            by_cases hj : j < n.toNatClampNeg
            · simp only [hj, if_true]
              rw [mv_dyn (by omega)]
              congr 1
              show H.size + 1 + j = b + (16 + h.1.1 + 1 + j - 16)
              omega
            · simp only [hj, if_false]
              rfl
          · have ek : h_k (h_grid h n.toNatClampNeg k.toNatClampNeg) x = (20, k.toNatClampNeg) := by
              show (if x = 16 + h.1.1 then (33, n.toNatClampNeg) else if 16 + h.1.1 < x ∧ x ≤ 16 + h.1.1 + n.toNatClampNeg then (20, k.toNatClampNeg) else h.2.1 x) = _
              rw [if_neg ex, if_pos (by omega)]
            refine Or.inr ⟨by rw [ek]; rfl, ?_, fun q => by rw [ek] at q; cases q⟩
            rw [ek, show b + (x - 16) = H.size + 1 + (x - 17 - h.1.1) by omega, hrow _ (by omega)]
            congr 2
            funext j
            show _ = Value.int ((if 16 + h.1.1 ≤ x ∧ x ≤ 16 + h.1.1 + n.toNatClampNeg then (fun _ => 0) else h.2.2.1 x) j)
            rw [if_pos (by omega)]
      have K2 := K F.heap locs ls hR2 hlo hl
      rw [List.map_cons, z_newst hR rfl] at K2
      obtain ⟨t, b1, b2⟩ := K2 F rfl (by
        have e1 : cells + (1 + n.toNatClampNeg) = cells + 1 + n.toNatClampNeg := by omega
        have e2 : slots + (n.toNatClampNeg + n.toNatClampNeg * k.toNatClampNeg) = slots + n.toNatClampNeg + n.toNatClampNeg * k.toNatClampNeg := by omega
        rw [e1, e2]
        exact X')
      refine ⟨t, step t ?_, b2⟩
      have e9 : T.heap.size = H.size := by rw [hT]
      rw [e9]
      exact b1
    · cases hs
  · cases hs
end SIMG
end
section
-- EVERY STEP, AND THE WHOLE RUN
section SIMM
variable {p : Program} {l : Launch} {e : Env} {R : Room} {s : State} {m : MethodId} {args : Array Value} {below : List Frame} {meth : Method} {c : Code} {Q : State → Prop} {i : Nat} {D : va_G} {tA : Nat → ClassId} {cst : Nat → Value} {b : Nat}
variable {H : Heap} {locs : List Loc} {cells slots : Nat} {pc : Nat} {ls : Array Slot} {lv : List (Nat × Value)} {st : List Value} {h : MH} {S : MS}
theorem m_l1 {a b : Nat} (k : Nat) (hk : 0 < k) (h : k = b ∨ k = 0) : b = k := by omega
set_option maxHeartbeats 4000000 in
theorem m_inl (C : SC p s m args meth c R i D tA cst b) (hR : HR D tA cst b s h H) (hlo : ∀ q ∈ locs, b ≤ q.base) (hl : lv_has ls (m_lc i) (ml cst b lv)) (hcl : cells ≤ R.cells) (hsl : slots ≤ R.slots) (hs : m_st i pc lv st h = some (.inl S)) : GS p l e R s m args below meth c H locs cells slots Q i D tA cst b h pc ls st S := by
  unfold m_st at hs
  split at hs
  · next e9 he9 =>
    split at hs
    · next hlen =>
      have hd := m_dec he9
      obtain ⟨ins, len⟩ := e9
      dsimp only at hs hlen
      cases ins with
      | iadd => exact PS.gs hR hlo (y_iadd C hl hd (m_l1 (a := 0) 1 (by decide) hlen) hs)
      | isub => exact PS.gs hR hlo (y_isub C hl hd (m_l1 (a := 0) 1 (by decide) hlen) hs)
      | imul => exact PS.gs hR hlo (y_imul C hl hd (m_l1 (a := 0) 1 (by decide) hlen) hs)
      | iand => exact PS.gs hR hlo (y_iand C hl hd (m_l1 (a := 0) 1 (by decide) hlen) hs)
      | ior => exact PS.gs hR hlo (y_ior C hl hd (m_l1 (a := 0) 1 (by decide) hlen) hs)
      | ixor => exact PS.gs hR hlo (y_ixor C hl hd (m_l1 (a := 0) 1 (by decide) hlen) hs)
      | ishl => exact PS.gs hR hlo (y_ishl C hl hd (m_l1 (a := 0) 1 (by decide) hlen) hs)
      | ishr => exact PS.gs hR hlo (y_ishr C hl hd (m_l1 (a := 0) 1 (by decide) hlen) hs)
      | iushr => exact PS.gs hR hlo (y_iushr C hl hd (m_l1 (a := 0) 1 (by decide) hlen) hs)
      | ladd => exact PS.gs hR hlo (y_ladd C hl hd (m_l1 (a := 0) 1 (by decide) hlen) hs)
      | lsub => exact PS.gs hR hlo (y_lsub C hl hd (m_l1 (a := 0) 1 (by decide) hlen) hs)
      | land => exact PS.gs hR hlo (y_land C hl hd (m_l1 (a := 0) 1 (by decide) hlen) hs)
      | lor => exact PS.gs hR hlo (y_lor C hl hd (m_l1 (a := 0) 1 (by decide) hlen) hs)
      | lxor => exact PS.gs hR hlo (y_lxor C hl hd (m_l1 (a := 0) 1 (by decide) hlen) hs)
      | lshl => exact PS.gs hR hlo (y_lshl C hl hd (m_l1 (a := 0) 1 (by decide) hlen) hs)
      | lshr => exact PS.gs hR hlo (y_lshr C hl hd (m_l1 (a := 0) 1 (by decide) hlen) hs)
      | lushr => exact PS.gs hR hlo (y_lushr C hl hd (m_l1 (a := 0) 1 (by decide) hlen) hs)
      | idiv => exact PS.gs hR hlo (y_idiv C hl hd (m_l1 (a := 0) 1 (by decide) hlen) hs)
      | irem => exact PS.gs hR hlo (y_irem C hl hd (m_l1 (a := 0) 1 (by decide) hlen) hs)
      | ineg => exact PS.gs hR hlo (y_ineg C hl hd (m_l1 (a := 0) 1 (by decide) hlen) hs)
      | lneg => exact PS.gs hR hlo (y_lneg C hl hd (m_l1 (a := 0) 1 (by decide) hlen) hs)
      | i2l => exact PS.gs hR hlo (y_i2l C hl hd (m_l1 (a := 0) 1 (by decide) hlen) hs)
      | i2b => exact PS.gs hR hlo (y_i2b C hl hd (m_l1 (a := 0) 1 (by decide) hlen) hs)
      | i2c => exact PS.gs hR hlo (y_i2c C hl hd (m_l1 (a := 0) 1 (by decide) hlen) hs)
      | l2i => exact PS.gs hR hlo (y_l2i C hl hd (m_l1 (a := 0) 1 (by decide) hlen) hs)
      | lcmp => exact PS.gs hR hlo (y_lcmp C hl hd (m_l1 (a := 0) 1 (by decide) hlen) hs)
      | dup => exact PS.gs hR hlo (y_dup C hl hd (m_l1 (a := 0) 1 (by decide) hlen) hs)
      | pop => exact PS.gs hR hlo (y_pop C hl hd (m_l1 (a := 0) 1 (by decide) hlen) hs)
      | pop2 => exact PS.gs hR hlo (y_pop2 C hl hd (m_l1 (a := 0) 1 (by decide) hlen) hs)
      | dup2 => exact PS.gs hR hlo (y_dup2 C hl hd (m_l1 (a := 0) 1 (by decide) hlen) hs)
      | iconst k => exact PS.gs hR hlo (y_iconst C hl hd (m_l1 (a := 0) 1 (by decide) hlen) hs)
      | lconst k => exact PS.gs hR hlo (y_lconst C hl hd (m_l1 (a := 0) 1 (by decide) hlen) hs)
      | iload_n k => exact PS.gs hR hlo (y_iload_n C hl hd (m_l1 (a := 0) 1 (by decide) hlen) hs)
      | lload_n k => exact PS.gs hR hlo (y_lload_n C hl hd (m_l1 (a := 0) 1 (by decide) hlen) hs)
      | aload_n k => exact PS.gs hR hlo (y_aload_n C hl hd (m_l1 (a := 0) 1 (by decide) hlen) hs)
      | istore_n k => exact PS.gs hR hlo (y_istore_n C hl hd (m_l1 (a := 0) 1 (by decide) hlen) hs)
      | lstore_n k => exact PS.gs hR hlo (y_lstore_n C hl hd (m_l1 (a := 0) 1 (by decide) hlen) hs)
      | astore_n k => exact PS.gs hR hlo (y_astore_n C hl hd (m_l1 (a := 0) 1 (by decide) hlen) hs)
      | aconst_null => exact PS.gs hR hlo (y_aconst C hl hd (m_l1 (a := 0) 1 (by decide) hlen) hs)
      | bipush k => exact PS.gs hR hlo (y_bipush C hl hd (m_l1 (a := 0) 2 (by decide) hlen) hs)
      | iload k => exact PS.gs hR hlo (y_iload C hl hd (m_l1 (a := 0) 2 (by decide) hlen) hs)
      | lload k => exact PS.gs hR hlo (y_lload C hl hd (m_l1 (a := 0) 2 (by decide) hlen) hs)
      | aload k => exact PS.gs hR hlo (y_aload C hl hd (m_l1 (a := 0) 2 (by decide) hlen) hs)
      | istore k => exact PS.gs hR hlo (y_istore C hl hd (m_l1 (a := 0) 2 (by decide) hlen) hs)
      | lstore k => exact PS.gs hR hlo (y_lstore C hl hd (m_l1 (a := 0) 2 (by decide) hlen) hs)
      | astore k => exact PS.gs hR hlo (y_astore C hl hd (m_l1 (a := 0) 2 (by decide) hlen) hs)
      | sipush k => exact PS.gs hR hlo (y_sipush C hl hd (m_l1 (a := 0) 3 (by decide) hlen) hs)
      | iinc k z => exact PS.gs hR hlo (y_iinc C hl hd (m_l1 (a := 0) 3 (by decide) hlen) hs)
      | goto o => exact PS.gs hR hlo (y_goto C hl hd (m_l1 (a := 0) 3 (by decide) hlen) hs)
      | ifnull o => exact PS.gs hR hlo (y_ifnull C hl hd (m_l1 (a := 0) 3 (by decide) hlen) hs)
      | ifnonnull o => exact PS.gs hR hlo (y_ifnonnull C hl hd (m_l1 (a := 0) 3 (by decide) hlen) hs)
      | if_icmp cc o => cases cc with
        | eq => exact PS.gs hR hlo (y_icmp_eq C hl hd (m_l1 (a := 0) 3 (by decide) hlen) hs)
        | ne => exact PS.gs hR hlo (y_icmp_ne C hl hd (m_l1 (a := 0) 3 (by decide) hlen) hs)
        | lt => exact PS.gs hR hlo (y_icmp_lt C hl hd (m_l1 (a := 0) 3 (by decide) hlen) hs)
        | ge => exact PS.gs hR hlo (y_icmp_ge C hl hd (m_l1 (a := 0) 3 (by decide) hlen) hs)
        | gt => exact PS.gs hR hlo (y_icmp_gt C hl hd (m_l1 (a := 0) 3 (by decide) hlen) hs)
        | le => exact PS.gs hR hlo (y_icmp_le C hl hd (m_l1 (a := 0) 3 (by decide) hlen) hs)
      | ifCond cc o => cases cc with
        | eq => exact PS.gs hR hlo (y_if_eq C hl hd (m_l1 (a := 0) 3 (by decide) hlen) hs)
        | ne => exact PS.gs hR hlo (y_if_ne C hl hd (m_l1 (a := 0) 3 (by decide) hlen) hs)
        | lt => exact PS.gs hR hlo (y_if_lt C hl hd (m_l1 (a := 0) 3 (by decide) hlen) hs)
        | ge => exact PS.gs hR hlo (y_if_ge C hl hd (m_l1 (a := 0) 3 (by decide) hlen) hs)
        | gt => exact PS.gs hR hlo (y_if_gt C hl hd (m_l1 (a := 0) 3 (by decide) hlen) hs)
        | le => exact PS.gs hR hlo (y_if_le C hl hd (m_l1 (a := 0) 3 (by decide) hlen) hs)
      | tableswitch d lo hi offs => exact PS.gs hR hlo (y_tsw C hl hd hs)
      | getfield idx => cases (m_l1 (a := 0) 3 (by decide) hlen); exact PS.gs hR hlo (z_get C hR hl hd hs)
      | putfield idx => cases (m_l1 (a := 0) 3 (by decide) hlen); exact HS.gs (z_put C hR hlo hl hd hs)
      | getstatic idx => cases (m_l1 (a := 0) 3 (by decide) hlen); exact PS.gs hR hlo (z_gets C hR hl hd hs)
      | iaload => cases (m_l1 (a := 0) 1 (by decide) hlen); exact PS.gs hR hlo (z_iald C hR hl hd hs)
      | baload => cases (m_l1 (a := 0) 1 (by decide) hlen); exact PS.gs hR hlo (z_bald C hR hl hd hs)
      | laload => cases (m_l1 (a := 0) 1 (by decide) hlen); exact PS.gs hR hlo (z_lald C hR hl hd hs)
      | aaload => cases (m_l1 (a := 0) 1 (by decide) hlen); exact PS.gs hR hlo (z_aald C hR hl hd hs)
      | iastore => cases (m_l1 (a := 0) 1 (by decide) hlen); exact HS.gs (z_iast C hR hlo hl hd hs)
      | bastore => cases (m_l1 (a := 0) 1 (by decide) hlen); exact HS.gs (z_bast C hR hlo hl hd hs)
      | lastore => cases (m_l1 (a := 0) 1 (by decide) hlen); exact HS.gs (z_last C hR hlo hl hd hs)
      | aastore => cases (m_l1 (a := 0) 1 (by decide) hlen); exact HS.gs (z_aast C hR hlo hl hd hs)
      | arraylength => cases (m_l1 (a := 0) 1 (by decide) hlen); exact PS.gs hR hlo (z_alen C hR hl hd hs)
      | newarray t => cases (m_l1 (a := 0) 2 (by decide) hlen); exact z_newa C hR hlo hl hd hs
      | new idx => cases (m_l1 (a := 0) 3 (by decide) hlen); exact z_new C hR hlo hl hd hs
      | anewarray idx => cases (m_l1 (a := 0) 3 (by decide) hlen); exact z_anew C hR hlo hl hd hs
      | ldc idx => cases (m_l1 (a := 0) 2 (by decide) hlen); exact PS.gs hR hlo (z_ldc C hl hd hs)
      | ldc_w idx => cases (m_l1 (a := 0) 3 (by decide) hlen); exact PS.gs hR hlo (z_ldcw C hl hd hs)
      | ldc2_w idx => cases (m_l1 (a := 0) 3 (by decide) hlen); exact PS.gs hR hlo (z_ldc2 C hl hd hs)
      | invokestatic idx => cases (m_l1 (a := 0) 3 (by decide) hlen); exact HS.gs (z_call1 C hR hlo hl hcl hsl hd (Or.inl ⟨rfl, rfl⟩) hs)
      | invokevirtual idx => cases (m_l1 (a := 0) 3 (by decide) hlen); exact HS.gs (z_call1 C hR hlo hl hcl hsl hd (Or.inr (Or.inl ⟨rfl, rfl⟩)) hs)
      | invokespecial idx => cases (m_l1 (a := 0) 3 (by decide) hlen); exact HS.gs (z_call1 C hR hlo hl hcl hsl hd (Or.inr (Or.inr ⟨rfl, rfl⟩)) hs)
      | multianewarray idx d =>
        cases (m_l1 (a := 0) 4 (by decide) hlen)
        simp only [m_ex] at hs
        split at hs
        · next hd2 =>
          subst hd2
          exact z_grid C hR hlo hl hd hs
        · cases hs
      | ireturn =>
        exfalso
        revert hs
        simp only [m_ex]
        repeat' split
        all_goals simp
      | lreturn =>
        exfalso
        revert hs
        simp only [m_ex]
        repeat' split
        all_goals simp
      | areturn =>
        exfalso
        revert hs
        simp only [m_ex]
        repeat' split
        all_goals simp
      | return_ =>
        exfalso
        revert hs
        simp only [m_ex]
        repeat' split
        all_goals simp
      | _ => exact absurd hs (by simp [m_ex])
    · cases hs
  · cases hs
-- what a method answers, and what it leaves
def m_Pc (D : va_G) (tA : Nat → ClassId) (cst : Nat → Value) (b : Nat) (h : MH) (as : List Value) : Array Value → State → Prop := fun a U => a = (as.map (mv cst b)).toArray ∧ HR D tA cst b U h U.heap ∧ KS D tA cst U
def m_Qc (D : va_G) (tA : Nat → ClassId) (cst : Nat → Value) (b : Nat) (v : Option Value) (h : MH) : Array Value → State → Outcome → State → Prop := fun _ _ o t => o = .returned (v.map (mv cst b)) ∧ HR D tA cst b t h t.heap
def m_rm (j mc ms : Nat) : Room := { frames := m_fr j, cells := mc, slots := ms, locals := m_lo j }
def m_ws (j : Nat) : List Cond := m_cw (m_m j) :: m_tg0
def m_met (l : Launch) (D : va_G) (tA : Nat → ClassId) (cst : Nat → Value) (b j : Nat) (as : List Value) (h : MH) (v : Option Value) (h' : MH) : Prop := Met l (m_m j).2.1 (m_ws j) (m_rm j (h_n h' - h_n h) (h_z h' - h_z h)) (m_Pc D tA cst b h as) (m_Qc D tA cst b v h') (h_n h' - h_n h) (h_z h' - h_z h) (fun q => b ≤ q)
theorem m_blind {h : MH} {as : List Value} : FrameBlind (m_Pc D tA cst b h as) := fun a U g mk q => ⟨q.1, HR.moved (u := U) (U := U.calling g mk a) (Vm.Alike.refl U.vm) q.2.1, KS.same (s := U) (U := U.calling g mk a) rfl q.2.2⟩
theorem m_pre {as : List Value} (hR : HR D tA cst b s h H) (hks : KS D tA cst s) (U : State) (hU : U.heap = H) (hW : s.WarmedH U.vm) : m_Pc D tA cst b h as (as.map (mv cst b)).toArray U := ⟨rfl, by rw [hU]; exact HR.moved hW.alike hR, KS.warm hW hks⟩
theorem m_cwin {j : Nat} (hj0 : 0 < j) (hj : j < 292) : m_cw (m_m j) ∈ m_tg0 := m_tgI (m_KC j hj0 hj) rfl
theorem m_gin {j : Nat} (hj0 : 0 < j) (hj : j < 292) : GoodIn m_tg0 (m_ws j) := by
  intro w hw
  rcases List.mem_cons.mp hw with q | q
  · rw [q]
    exact ⟨m_cwin hj0 hj, good_of_word rfl⟩
  · exact ⟨q, good_of_word (List.mem_filter.mp q).2⟩
theorem m_after {Qa : State → Outcome → State → Prop} {rest st0 : List Value} {mc ms : Nat} (hlo : ∀ q ∈ locs, b ≤ q.base) (hr : va_Run p l e R s m args below meth c H locs cells slots mc ms (F0 m pc ls st0) rest Qa (fun q => b ≤ q))
    (kk : ∀ (v : Option Value) (st₀ t : State) (L : List Loc), Qa st₀ (.returned v) t → s.vm.Alike t.vm → (∀ q ∈ locs ++ L, b ≤ q.base) → W p l e R s m args below meth c t.heap (locs ++ L) (cells + mc) (slots + ms) Q (F0 m (pc + 3) ls (v.toList ++ rest))) : W p l e R s m args below meth c H locs cells slots Q (F0 m pc ls st0) := by
  intro T hT X
  obtain ⟨v, st₀, t, T', L, h0, X', hL, e1, e2, hq, stp⟩ := hr T hT X
  obtain ⟨t2, a1, b1⟩ := kk v st₀ t L hq (by rw [← e2]; exact X'.warmed.alike) (fun q hq9 => by
    rcases List.mem_append.mp hq9 with h9 | h9
    · exact hlo q h9
    · exact hL q h9) T' e1 X'
  exact ⟨t2, stp t2 a1, b1⟩
theorem m_map_rev (as : List Value) : ((as.map (mv cst b)).reverse : List Value) = as.reverse.map (mv cst b) := by rw [List.map_reverse]
set_option maxHeartbeats 1000000 in
theorem m_callW (C : SC p s m args meth c R i D tA cst b) (hR : HR D tA cst b s h H) (hlo : ∀ q ∈ locs, b ≤ q.base) (hl : lv_has ls (m_lc i) (ml cst b lv)) {kd idx j pc' : Nat} {ins : Instr} {as r : List Value} {v1 : Option Value} {h1 : MH} (hd : decode (m_m i).2.2.1 pc = .ok (ins, 3)) (hi : (kd = 0 ∧ ins = .invokestatic idx) ∨ (kd = 1 ∧ ins = .invokevirtual idx) ∨ (kd = 2 ∧ ins = .invokespecial idx)) (hs : e_call kd i idx pc lv st h = some (.inr (.inr (j, as, r, pc'))))
    (hM : m_met l D tA cst b j as h v1 h1) (hcl : cells + (h_n h1 - h_n h) ≤ R.cells) (hsl : slots + (h_z h1 - h_z h) ≤ R.slots)
    (kk : pc' = pc + 3 → ∀ (H' : Heap) (locs' : List Loc), HR D tA cst b s h1 H' → (∀ q ∈ locs', b ≤ q.base) → W p l e R s m args below meth c H' locs' (cells + (h_n h1 - h_n h)) (slots + (h_z h1 - h_z h)) Q (F0 m pc' ls ((v1.toList ++ r).map (mv cst b)))) : W p l e R s m args below meth c H locs cells slots Q (F0 m pc ls (st.map (mv cst b))) := by
  obtain ⟨hx, hb, hml, hown, hts, hlocks, hini, hfr, hlo9, hks, hc, hr⟩ := id C
  unfold e_call at hs
  split at hs
  · next nest j9 hf =>
    have hw := m_mlw hf
    split at hs
    · split at hs
      · split at hs <;> cases hs
      · cases hs
    · split at hs
      · split at hs
        · exfalso
          revert hs
          unfold e_cp
          repeat' split
          all_goals simp [m_go]
        · cases hs
      · split at hs
        · split at hs
          · split at hs <;> cases hs
          · cases hs
        · next hj900 hj901 hmm1 =>
          split at hs
          · split at hs
            · split at hs <;> cases hs
            · cases hs
          · next hmm2 =>
            split at hs
            · next hk =>
              obtain ⟨hj0, hjN, hkind, hf1, hf2⟩ := hk
              have hnm : m_name j9 = (m_m j9).2.1 := m_nameq hjN hj900 hj901
              have hnok := m_kn _ (m_mem j9)
              have hkw := m_KW j9 hj0 hjN
              simp only [m_nok, Bool.and_eq_true, decide_eq_true_eq] at hnok
              obtain ⟨-, hn1, hn2, hn3, hn4⟩ := hnok
              have hG := m_gin hj0 hjN
              have hinit : Cond.initialized (m_m j9).2.1.cls ∈ m_tg0 := m_tgI (hkw _ (by unfold m_kw; split <;> exact List.mem_cons_self)) rfl
              have hlen : ∀ sig, parseMethodDescriptor (m_m j9).2.1.desc = some sig → m_na j9 = sig.parameters.length := fun sig hsig => by
                rw [hsig] at hn3
                exact (Option.some.inj hn3).symm
              have fin : ∀ st₀ t L (v : Option Value), j9 = j → pc + 3 = pc' → m_Qc D tA cst b v1 h1 ((as.map (mv cst b)).toArray) st₀ (.returned v) t → s.vm.Alike t.vm → (∀ q ∈ locs ++ L, b ≤ q.base) → ∀ r9, r9 = r → W p l e R s m args below meth c t.heap (locs ++ L) (cells + (h_n h1 - h_n h)) (slots + (h_z h1 - h_z h)) Q (F0 m (pc + 3) ls (v.toList ++ r9.map (mv cst b))) := by
                intro st₀ t L v ej ep hq hal hlo2 r9 hr9
                subst hr9
                obtain ⟨hv, hR1⟩ := hq
                have hv : v = v1.map (mv cst b) := by
                  cases hv
                  rfl
                have K := kk ep.symm t.heap (locs ++ L) (HR.moved hal.symm hR1) hlo2
                rw [← ep] at K
                rw [hv]
                cases v1 with
                | none => exact K
                | some v9 => exact K
              have hB : m_met l D tA cst b j as h v1 h1 → j9 = j → Cond.code (m_m j9).2.1 (m_m j9).2.2.1 (m_lc j9) (m_rt j9) ∈ m_ws j9 := fun _ _ => List.mem_cons_self
              split at hs
              · next hk0 =>
                subst hk0
                have hins : ins = .invokestatic idx := by
                  rcases hi with ⟨-, q⟩ | ⟨q, -⟩ | ⟨q, -⟩
                  · exact q
                  · omega
                  · omega
                subst hins
                split at hs
                · next hst =>
                  cases hs
                  have hstat : Cond.static (m_m j).2.1 ∈ m_tg0 := m_tgI (hkw _ (by unfold m_kw; rw [show (m_m j).2.2.2.2.2.1 = 0 from hkind]; exact List.mem_cons_of_mem _ List.mem_cons_self)) rfl
                  have hAs : ((st.take (m_na j)).reverse.map (mv cst b)).length = m_na j := by
                    rw [List.length_map, List.length_reverse, List.length_take]
                    omega
                  have hstk : st.map (mv cst b) = ((st.take (m_na j)).reverse.map (mv cst b)).reverse ++ (st.drop (m_na j)).map (mv cst b) := by
                    rw [← List.map_reverse, List.reverse_reverse, ← List.map_append, List.take_append_drop]
                  unfold m_met at hM
                  have hp : PreS s H (m_Pc D tA cst b h (st.take (m_na j)).reverse) ((st.take (m_na j)).reverse.map (mv cst b)) := ⟨m_blind, fun U hU hW => m_pre hR hks U hU hW⟩
                  rcases Nat.eq_zero_or_pos nest with hn0 | hn0
                  · subst hn0
                    have hlk : (Cond.methodLink (m_m i).2.1.cls idx (m_m j).2.1).before args s = true := by
                      rw [← hnm]
                      exact hts _ (m_tgI hw rfl)
                    exact m_after hlo (va_runS (n := m_na j) (rest := (st.drop (m_na j)).map (mv cst b)) ⟨hx, hb, hml, hown, hts⟩ hM ⟨⟨rfl, rfl, Nat.le_trans hf1 hfr, Nat.le_trans hf2 hlo9, pay_in hts hG, hB hM rfl, hts _ (m_cwin hj0 hjN), hts _ hinit, ⟨hn1, hn2⟩, hlen, hlk⟩, hts _ hstat⟩ hp rfl hAs hl.1 hstk (lv_room (by rw [mv_sum hc]; exact hst.2)) hd ⟨hcl, hsl⟩) (fun v st₀ t L hq hal hlo2 => fin st₀ t L v rfl rfl hq hal hlo2 _ rfl)
                  · have hlk : (Cond.methodLinkNest (m_m i).2.1.cls idx (m_m j).2.1 "PastHeaps").before args s = true := by
                      rw [← hnm]
                      unfold m_mw at hw
                      rw [if_neg (show ¬ ((idx, nest, j) : Nat × Nat × Nat).2.1 = 0 from Nat.ne_of_gt hn0)] at hw
                      exact va_Nw.use rfl (hks.2.1 _ hw rfl)
                    exact m_after hlo (va_runSN (n := m_na j) (rest := (st.drop (m_na j)).map (mv cst b)) ⟨hx, hb, hml, hown, hts⟩ hM ⟨⟨⟨rfl, rfl, Nat.le_trans hf1 hfr, Nat.le_trans hf2 hlo9, pay_in hts hG, hB hM rfl⟩, hts _ (m_cwin hj0 hjN), hts _ hinit, ⟨hn1, hn2⟩, hlen, hlk⟩, hts _ hstat, trivial⟩ hp rfl hAs hl.1 hstk (lv_room (by rw [mv_sum hc]; exact hst.2)) hd ⟨hcl, hsl⟩) (fun v st₀ t L hq hal hlo2 => fin st₀ t L v rfl rfl hq hal hlo2 _ rfl)
                · cases hs
              · next hk0 =>
                split at hs
                · next a r9 hdrop =>
                  by_cases hst : m_na j9 + 1 ≤ st.length ∧ m_cat r9 ≤ 8 ∧ (if (m_m j9).2.1.cls = "java/lang/String" then (h_k h a).1 = 40 else m_cnm ((h_k h a).1 - 1) = (m_m j9).2.1.cls ∧ 16 ≤ a ∧ 0 < (h_k h a).1 ∧ (h_k h a).1 < 11)
                  · rw [if_pos hst] at hs
                    obtain ⟨hst1, hst2, hrec⟩ := hst
                    cases hs
                    have hAs : ((st.take (m_na j)).reverse.map (mv cst b)).length = m_na j := by
                      rw [List.length_map, List.length_reverse, List.length_take]
                      omega
                    have hrecv : ∃ (y : Nat) (cellB : Cell), mv cst b (.ref a) = .ref y ∧ H[y]? = some cellB ∧ cellB.vm.isStatics = false ∧ s.vm.findClass (m_m j).2.1.cls = some cellB.cls := by
                      split at hrec
                      · next hstr =>
                        have ha : a < 16 := by
                          rcases Nat.lt_or_ge a 16 with q | q
                          · exact q
                          · rcases hR.cell q (by omega) with ⟨q1, q2, q3⟩ | ⟨q1, q2, q3⟩
                            · omega
                            · rw [hrec] at q1
                              exact absurd q1 (by decide)
                        have ha0 : a ≠ 0 := by
                          intro e9
                          rw [e9] at hrec
                          have := hR.2.2.2.2.2
                          omega
                        have hq := hR.2.2.2.1 a ha
                        unfold m_cst at hq
                        rw [hrec] at hq
                        obtain ⟨y, g1, g2, ⟨cell, g3, g4, g5, g6⟩, -, -⟩ := hq
                        exact ⟨y, cell, by rw [mv_cst ha0 ha, g1], g3, g4, by rw [hstr]; exact g5⟩
                      · obtain ⟨hnm9, ha, hk1, hk2⟩ := hrec
                        have hci : (h_k h a).1 - 1 < 10 := by omega
                        obtain ⟨q, hq, -⟩ := m_clf _ hci
                        obtain ⟨cv, kC, g1, g2, g3, g4, g5, g6, g7⟩ := z_objc hks hR (show (h_k h a).1 = ((h_k h a).1 - 1) + 1 by omega) hci hq
                        have hq1 : q.1 = (m_m j).2.1.cls := by
                          rw [← hnm9]
                          unfold m_cnm
                          rw [hq]
                        exact ⟨_, cv, mv_dyn ha, g1, g7, by rw [← hq1]; exact g6⟩
                    obtain ⟨y, cellB, hy, hcB, hoB, hclB⟩ := hrecv
                    have hstk : st.map (mv cst b) = ((st.take (m_na j)).reverse.map (mv cst b)).reverse ++ .ref y :: r.map (mv cst b) := by
                      rw [← List.map_reverse, List.reverse_reverse]
                      conv => lhs; rw [← List.take_append_drop (m_na j) st, hdrop]
                      rw [List.map_append, List.map_cons, hy]
                    have hmap : (((.ref a : Value) :: (st.take (m_na j)).reverse).map (mv cst b)) = .ref y :: (st.take (m_na j)).reverse.map (mv cst b) := by
                      rw [List.map_cons, hy]
                    unfold m_met at hM
                    have hpre9 : ∀ U : State, U.heap = H → s.WarmedH U.vm → m_Pc D tA cst b h (.ref a :: (st.take (m_na j)).reverse) (.ref y :: (st.take (m_na j)).reverse.map (mv cst b)).toArray U := fun U hU hW => by
                      rw [← hmap]
                      exact m_pre hR hks U hU hW
                    have fin2 : ∀ (v : Option Value) (st₀ t : State) (L : List Loc), m_Qc D tA cst b v1 h1 ((.ref y :: (st.take (m_na j)).reverse.map (mv cst b)).toArray) st₀ (.returned v) t → s.vm.Alike t.vm → (∀ q ∈ locs ++ L, b ≤ q.base) → W p l e R s m args below meth c t.heap (locs ++ L) (cells + (h_n h1 - h_n h)) (slots + (h_z h1 - h_z h)) Q (F0 m (pc + 3) ls (v.toList ++ r.map (mv cst b))) := fun v st₀ t L hq hal hlo2 => fin st₀ t L v rfl rfl hq hal hlo2 _ rfl
                    rcases hi with ⟨q, -⟩ | ⟨q, hins⟩ | ⟨q, hins⟩
                    · exact absurd q hk0
                    · subst q
                      subst hins
                      have hinst : Cond.instanceMethod (m_m j).2.1 ∈ m_tg0 := m_tgI (hkw _ (by unfold m_kw; rw [show (m_m j).2.2.2.2.2.1 = 1 from hkind]; exact List.mem_cons_of_mem _ List.mem_cons_self)) rfl
                      have hsel : Cond.selects (m_m j).2.1.cls (m_m j).2.1 (m_m j).2.1 ∈ m_tg0 := m_tgI (hkw _ (by unfold m_kw; rw [show (m_m j).2.2.2.2.2.1 = 1 from hkind]; exact List.mem_cons_of_mem _ (List.mem_cons_of_mem _ List.mem_cons_self))) rfl
                      have hp : PreV s H (m_m j).2.1.cls y (m_Pc D tA cst b h (.ref a :: (st.take (m_na j)).reverse)) ((st.take (m_na j)).reverse.map (mv cst b)) := ⟨m_blind, ⟨cellB, hcB, hoB, hclB⟩, hpre9⟩
                      rcases Nat.eq_zero_or_pos nest with hn0 | hn0
                      · subst hn0
                        have hlk : (Cond.methodLink (m_m i).2.1.cls idx (m_m j).2.1).before args s = true := by
                          rw [← hnm]
                          exact hts _ (m_tgI hw rfl)
                        exact m_after hlo (va_runV (n := m_na j) (rest := r.map (mv cst b)) ⟨hx, hb, hml, hown, hts⟩ hM ⟨⟨rfl, rfl, Nat.le_trans hf1 hfr, Nat.le_trans hf2 hlo9, pay_in hts hG, hB hM rfl, hts _ (m_cwin hj0 hjN), hts _ hinit, ⟨hn1, hn2⟩, hlen, hlk⟩, hts _ hinst, hts _ hsel⟩ hp rfl hAs hl.1 hstk (lv_room (by rw [mv_sum hc]; exact hst2)) hd ⟨hcl, hsl⟩) fin2
                      · have hlk : (Cond.methodLinkNest (m_m i).2.1.cls idx (m_m j).2.1 "PastHeaps").before args s = true := by
                          rw [← hnm]
                          unfold m_mw at hw
                          rw [if_neg (show ¬ ((idx, nest, j) : Nat × Nat × Nat).2.1 = 0 from Nat.ne_of_gt hn0)] at hw
                          exact va_Nw.use rfl (hks.2.1 _ hw rfl)
                        exact m_after hlo (va_runVN (n := m_na j) (rest := r.map (mv cst b)) ⟨hx, hb, hml, hown, hts⟩ hM ⟨⟨⟨rfl, rfl, Nat.le_trans hf1 hfr, Nat.le_trans hf2 hlo9, pay_in hts hG, hB hM rfl⟩, hts _ (m_cwin hj0 hjN), hts _ hinit, ⟨hn1, hn2⟩, hlen, hlk⟩, hts _ hinst, hts _ hsel⟩ hp rfl hAs hl.1 hstk (lv_room (by rw [mv_sum hc]; exact hst2)) hd ⟨hcl, hsl⟩) fin2
                    · subst q
                      subst hins
                      have hinst : Cond.instanceMethod (m_m j).2.1 ∈ m_tg0 := m_tgI (hkw _ (by unfold m_kw; rw [show (m_m j).2.2.2.2.2.1 = 2 from hkind]; exact List.mem_cons_of_mem _ List.mem_cons_self)) rfl
                      obtain ⟨hy1, hret⟩ := hn4 hkind
                      have hp : PreS s H (m_Pc D tA cst b h (.ref a :: (st.take (m_na j)).reverse)) (.ref y :: (st.take (m_na j)).reverse.map (mv cst b)) := ⟨m_blind, hpre9⟩
                      have hcode9 : (Cond.code (m_m j).2.1 (m_m j).2.2.1 (m_lc j) none).before args s = true := by
                        rw [← hret]
                        exact hts _ (m_cwin hj0 hjN)
                      have hB9 : Cond.code (m_m j).2.1 (m_m j).2.2.1 (m_lc j) none ∈ m_ws j := by
                        rw [← hret]
                        exact hB hM rfl
                      rcases Nat.eq_zero_or_pos nest with hn0 | hn0
                      · subst hn0
                        have hlk : (Cond.methodLink (m_m i).2.1.cls idx (m_m j).2.1).before args s = true := by
                          rw [← hnm]
                          exact hts _ (m_tgI hw rfl)
                        exact m_after hlo (va_runI (n := m_na j) (rest := r.map (mv cst b)) ⟨hx, hb, hml, hown, hts⟩ hM ⟨⟨rfl, rfl, Nat.le_trans hf1 hfr, Nat.le_trans hf2 hlo9, pay_in hts hG, hB9, hcode9, hts _ hinit, ⟨hn1, hn2⟩, hlen, hlk⟩, hy1, hts _ hinst⟩ hp rfl hAs hl.1 hstk (lv_room (by rw [mv_sum hc]; exact hst2)) hd ⟨hcl, hsl⟩) fin2
                      · have hlk : (Cond.methodLinkNest (m_m i).2.1.cls idx (m_m j).2.1 "PastHeaps").before args s = true := by
                          rw [← hnm]
                          unfold m_mw at hw
                          rw [if_neg (show ¬ ((idx, nest, j) : Nat × Nat × Nat).2.1 = 0 from Nat.ne_of_gt hn0)] at hw
                          exact va_Nw.use rfl (hks.2.1 _ hw rfl)
                        exact m_after hlo (va_runIN (n := m_na j) (rest := r.map (mv cst b)) ⟨hx, hb, hml, hown, hts⟩ hM ⟨⟨⟨rfl, rfl, Nat.le_trans hf1 hfr, Nat.le_trans hf2 hlo9, pay_in hts hG, hB9⟩, hcode9, hts _ hinit, ⟨hn1, hn2⟩, hlen, hlk⟩, hy1, hts _ hinst⟩ hp rfl hAs hl.1 hstk (lv_room (by rw [mv_sum hc]; exact hst2)) hd ⟨hcl, hsl⟩) fin2
                  · rw [if_neg hst] at hs
                    cases hs
                · cases hs
            · cases hs
  · cases hs
end SIMM
end
section
-- WHAT A STEP CAN BE; THE RUN
section RUN
variable {i : Nat} {pc : Nat} {lv : List (Nat × Value)} {st : List Value} {h : MH}
def m_il (h : MH) (o : Option MA) : Prop := ∀ q, o = some q → ∃ S : MS, q = .inl S ∧ h_n h ≤ h_n S.2.2.2 ∧ h_z h ≤ h_z S.2.2.2
theorem il_none : m_il h none := fun q h => by cases h
theorem il_go {h1 : MH} (h2 : h_n h ≤ h_n h1) (h3 : h_z h ≤ h_z h1) : m_il h (m_go pc lv st h1) := fun q hq => by
  cases hq
  exact ⟨_, rfl, h2, h3⟩
theorem il_id : m_il h (m_go pc lv st h) := il_go (Nat.le_refl _) (Nat.le_refl _)
theorem il_tg {off : Int} : m_il h (m_tg pc off lv st h) := by
  unfold m_tg
  split
  · exact il_id
  · exact il_none
theorem il_br {t : Bool} {off : Int} : m_il h (m_br t pc off lv st h) := by
  unfold m_br
  split
  · split
    · exact il_id
    · exact il_id
  · exact il_none
theorem il_e_ii {f : Int32 → Int32 → Int32} : m_il h (e_ii f pc lv st h) := by
  unfold e_ii
  repeat' split
  all_goals first | exact il_none | exact il_id
theorem il_e_ll {f : Int64 → Int64 → Int64} : m_il h (e_ll f pc lv st h) := by
  unfold e_ll
  repeat' split
  all_goals first | exact il_none | exact il_id
theorem il_e_li {f : Int64 → Int32 → Int64} : m_il h (e_li f pc lv st h) := by
  unfold e_li
  repeat' split
  all_goals first | exact il_none | exact il_id
theorem il_e_i {f : Int32 → Value} : m_il h (e_i f pc lv st h) := by
  unfold e_i
  repeat' split
  all_goals first | exact il_none | exact il_id
theorem il_e_l {f : Int64 → Value} : m_il h (e_l f pc lv st h) := by
  unfold e_l
  repeat' split
  all_goals first | exact il_none | exact il_id
theorem il_e_dv {f : Int32 → Int32 → Int32} : m_il h (e_dv f pc lv st h) := by
  unfold e_dv
  repeat' split
  all_goals first | exact il_none | exact il_id
theorem il_e_ild {k : Nat} : m_il h (e_ild k pc lv st h) := by
  unfold e_ild
  repeat' split
  all_goals first | exact il_none | exact il_id
theorem il_e_lld {k : Nat} : m_il h (e_lld k pc lv st h) := by
  unfold e_lld
  repeat' split
  all_goals first | exact il_none | exact il_id
theorem il_e_ald {k : Nat} : m_il h (e_ald k pc lv st h) := by
  unfold e_ald
  repeat' split
  all_goals first | exact il_none | exact il_id
theorem il_e_ist {n k : Nat} : m_il h (e_ist n k pc lv st h) := by
  unfold e_ist
  repeat' split
  all_goals first | exact il_none | exact il_id
theorem il_e_lst {n k : Nat} : m_il h (e_lst n k pc lv st h) := by
  unfold e_lst
  repeat' split
  all_goals first | exact il_none | exact il_id
theorem il_e_ast {n k : Nat} : m_il h (e_ast n k pc lv st h) := by
  unfold e_ast
  repeat' split
  all_goals first | exact il_none | exact il_id
theorem il_e_inc {n k : Nat} {z : Int} : m_il h (e_inc n k z pc lv st h) := by
  unfold e_inc
  repeat' split
  all_goals first | exact il_none | exact il_id
theorem il_e_get {idx : Nat} : m_il h (e_get i idx pc lv st h) := by
  unfold e_get
  repeat' split
  all_goals first | exact il_none | exact il_id | exact il_go (Nat.le_refl _) (Nat.le_refl _) | exact il_go (Nat.le_add_right _ _) (Nat.le_add_right _ _)
theorem il_e_put {idx : Nat} : m_il h (e_put i idx pc lv st h) := by
  unfold e_put
  repeat' split
  all_goals first | exact il_none | exact il_id | exact il_go (Nat.le_refl _) (Nat.le_refl _) | exact il_go (Nat.le_add_right _ _) (Nat.le_add_right _ _)
theorem il_e_new {idx : Nat} : m_il h (e_new i idx pc lv st h) := by
  unfold e_new
  repeat' split
  all_goals first | exact il_none | exact il_id | exact il_go (Nat.le_refl _) (Nat.le_refl _) | exact il_go (Nat.le_add_right _ _) (Nat.le_add_right _ _)
theorem il_e_anew {idx : Nat} : m_il h (e_anew i idx pc lv st h) := by
  unfold e_anew
  repeat' split
  all_goals first | exact il_none | exact il_id | exact il_go (Nat.le_refl _) (Nat.le_refl _) | exact il_go (Nat.le_add_right _ _) (Nat.le_add_right _ _)
theorem il_e_grid {idx : Nat} : m_il h (e_grid i idx pc lv st h) := by
  unfold e_grid
  repeat' split
  all_goals first | exact il_none | exact il_id | exact il_go (Nat.le_refl _) (Nat.le_refl _) | exact il_go (Nat.le_add_right _ _) (Nat.le_add_right _ _)
theorem il_e_gets {idx : Nat} : m_il h (e_gets i idx pc lv st h) := by
  unfold e_gets
  repeat' split
  all_goals first | exact il_none | exact il_id | exact il_go (Nat.le_refl _) (Nat.le_refl _) | exact il_go (Nat.le_add_right _ _) (Nat.le_add_right _ _)
theorem il_e_iald {k0 k1 : Nat} : m_il h (e_iald k0 k1 pc lv st h) := by
  unfold e_iald
  repeat' split
  all_goals first | exact il_none | exact il_id
theorem il_e_lald : m_il h (e_lald pc lv st h) := by
  unfold e_lald
  repeat' split
  all_goals first | exact il_none | exact il_id | exact il_go (Nat.le_refl _) (Nat.le_refl _)
theorem il_e_aald : m_il h (e_aald pc lv st h) := by
  unfold e_aald
  repeat' split
  all_goals first | exact il_none | exact il_id | exact il_go (Nat.le_refl _) (Nat.le_refl _)
theorem il_e_iast : m_il h (e_iast pc lv st h) := by
  unfold e_iast
  repeat' split
  all_goals first | exact il_none | exact il_id | exact il_go (Nat.le_refl _) (Nat.le_refl _)
theorem il_e_bast : m_il h (e_bast pc lv st h) := by
  unfold e_bast
  repeat' split
  all_goals first | exact il_none | exact il_id | exact il_go (Nat.le_refl _) (Nat.le_refl _)
theorem il_e_last : m_il h (e_last pc lv st h) := by
  unfold e_last
  repeat' split
  all_goals first | exact il_none | exact il_id | exact il_go (Nat.le_refl _) (Nat.le_refl _)
theorem il_e_aast : m_il h (e_aast pc lv st h) := by
  unfold e_aast
  repeat' split
  all_goals first | exact il_none | exact il_id | exact il_go (Nat.le_refl _) (Nat.le_refl _)
theorem il_e_alen : m_il h (e_alen pc lv st h) := by
  unfold e_alen
  repeat' split
  all_goals first | exact il_none | exact il_id | exact il_go (Nat.le_refl _) (Nat.le_refl _)
theorem il_e_newa {t : ArrayType} : m_il h (e_newa t pc lv st h) := by
  unfold e_newa
  repeat' split
  all_goals first | exact il_none | exact il_go (Nat.le_add_right _ _) (Nat.le_add_right _ _)
theorem il_e_ldc {w idx : Nat} : m_il h (e_ldc w i idx pc lv st h) := by
  unfold e_ldc
  repeat' split
  all_goals first | exact il_none | exact il_id
theorem il_e_cp : m_il h (e_cp i pc lv st h) := by
  unfold e_cp
  repeat' split
  all_goals first | exact il_none | exact il_go (Nat.le_refl _) (Nat.le_refl _)
theorem il_e_call {kd idx : Nat} {q : MA} (hq : e_call kd i idx pc lv st h = some q) : (∃ S : MS, q = .inl S ∧ h_n h ≤ h_n S.2.2.2 ∧ h_z h ≤ h_z S.2.2.2) ∨ ∃ c, q = .inr (.inr c) := by
  revert hq
  unfold e_call
  repeat' split
  all_goals intro hq
  all_goals first | (exact Or.inl (il_e_cp q hq)) | (exact Or.inl (il_id q hq)) | (exact Or.inr ⟨_, (Option.some.inj hq).symm⟩) | (exact absurd hq (by simp))
def m_ri (t : Option FieldType) (ins : Instr) (v : Option Value) : Prop := (∃ x, v = some (.int x) ∧ ins = .ireturn ∧ m_rok t x = true) ∨ (∃ x, v = some (.long x) ∧ ins = .lreturn ∧ t = some .long) ∨ (∃ x, v = some (.ref x) ∧ ins = .areturn ∧ m_rr t = true) ∨ (v = none ∧ ins = .return_ ∧ t = none)
def m_kdi (kd idx : Nat) (ins : Instr) : Prop := (kd = 0 ∧ ins = .invokestatic idx) ∨ (kd = 1 ∧ ins = .invokevirtual idx) ∨ (kd = 2 ∧ ins = .invokespecial idx)
theorem m_stq {q : MA} (hs : m_st i pc lv st h = some q) : (∃ S : MS, q = .inl S ∧ h_n h ≤ h_n S.2.2.2 ∧ h_z h ≤ h_z S.2.2.2) ∨ (∃ (v : Option Value) (ins : Instr), q = .inr (.inl (v, h)) ∧ decode (m_m i).2.2.1 pc = .ok (ins, 1) ∧ m_ri (m_rt i) ins v ∧ st = v.toList) ∨ (∃ (cl : Nat × List Value × List Value × Nat) (kd idx : Nat) (ins : Instr), q = .inr (.inr cl) ∧ decode (m_m i).2.2.1 pc = .ok (ins, 3) ∧ m_kdi kd idx ins ∧ e_call kd i idx pc lv st h = some (.inr (.inr cl))) := by
  unfold m_st at hs
  split at hs
  · next e9 he9 =>
    split at hs
    · next hlen =>
      have hd := m_dec he9
      obtain ⟨ins, len⟩ := e9
      dsimp only at hs hlen
      cases ins with
      | iadd => exact Or.inl (il_e_ii q hs)
      | isub => exact Or.inl (il_e_ii q hs)
      | imul => exact Or.inl (il_e_ii q hs)
      | iand => exact Or.inl (il_e_ii q hs)
      | ior => exact Or.inl (il_e_ii q hs)
      | ixor => exact Or.inl (il_e_ii q hs)
      | ishl => exact Or.inl (il_e_ii q hs)
      | ishr => exact Or.inl (il_e_ii q hs)
      | iushr => exact Or.inl (il_e_ii q hs)
      | idiv => exact Or.inl (il_e_dv q hs)
      | irem => exact Or.inl (il_e_dv q hs)
      | ineg => exact Or.inl (il_e_i q hs)
      | i2l => exact Or.inl (il_e_i q hs)
      | i2b => exact Or.inl (il_e_i q hs)
      | i2c => exact Or.inl (il_e_i q hs)
      | ladd => exact Or.inl (il_e_ll q hs)
      | lsub => exact Or.inl (il_e_ll q hs)
      | land => exact Or.inl (il_e_ll q hs)
      | lor => exact Or.inl (il_e_ll q hs)
      | lxor => exact Or.inl (il_e_ll q hs)
      | lshl => exact Or.inl (il_e_li q hs)
      | lshr => exact Or.inl (il_e_li q hs)
      | lushr => exact Or.inl (il_e_li q hs)
      | lneg => exact Or.inl (il_e_l q hs)
      | l2i => exact Or.inl (il_e_l q hs)
      | iconst k => exact Or.inl (il_id q hs)
      | lconst k => exact Or.inl (il_id q hs)
      | bipush k => exact Or.inl (il_id q hs)
      | sipush k => exact Or.inl (il_id q hs)
      | aconst_null => exact Or.inl (il_id q hs)
      | iload k => exact Or.inl (il_e_ild q hs)
      | iload_n k => exact Or.inl (il_e_ild q hs)
      | lload k => exact Or.inl (il_e_lld q hs)
      | lload_n k => exact Or.inl (il_e_lld q hs)
      | aload k => exact Or.inl (il_e_ald q hs)
      | aload_n k => exact Or.inl (il_e_ald q hs)
      | istore k => exact Or.inl (il_e_ist q hs)
      | istore_n k => exact Or.inl (il_e_ist q hs)
      | lstore k => exact Or.inl (il_e_lst q hs)
      | lstore_n k => exact Or.inl (il_e_lst q hs)
      | astore k => exact Or.inl (il_e_ast q hs)
      | astore_n k => exact Or.inl (il_e_ast q hs)
      | iinc k z => exact Or.inl (il_e_inc q hs)
      | goto o => exact Or.inl (il_tg q hs)
      | getfield k => exact Or.inl (il_e_get q hs)
      | putfield k => exact Or.inl (il_e_put q hs)
      | getstatic k => exact Or.inl (il_e_gets q hs)
      | new k => exact Or.inl (il_e_new q hs)
      | anewarray k => exact Or.inl (il_e_anew q hs)
      | multianewarray idx d =>
        simp only [m_ex] at hs
        split at hs
        · exact Or.inl (il_e_grid q hs)
        · cases hs
      | iaload => exact Or.inl (il_e_iald q hs)
      | baload => exact Or.inl (il_e_iald q hs)
      | laload => exact Or.inl (il_e_lald q hs)
      | aaload => exact Or.inl (il_e_aald q hs)
      | iastore => exact Or.inl (il_e_iast q hs)
      | bastore => exact Or.inl (il_e_bast q hs)
      | lastore => exact Or.inl (il_e_last q hs)
      | aastore => exact Or.inl (il_e_aast q hs)
      | arraylength => exact Or.inl (il_e_alen q hs)
      | newarray t => exact Or.inl (il_e_newa q hs)
      | ldc k => exact Or.inl (il_e_ldc q hs)
      | ldc_w k => exact Or.inl (il_e_ldc q hs)
      | dup =>
        refine Or.inl ((show m_il h _ from ?_) q hs)
        simp only [m_ex]
        repeat' split
        all_goals first | exact il_none | exact il_id | exact il_tg | exact il_br
      | pop =>
        refine Or.inl ((show m_il h _ from ?_) q hs)
        simp only [m_ex]
        repeat' split
        all_goals first | exact il_none | exact il_id | exact il_tg | exact il_br
      | pop2 =>
        refine Or.inl ((show m_il h _ from ?_) q hs)
        simp only [m_ex]
        repeat' split
        all_goals first | exact il_none | exact il_id | exact il_tg | exact il_br
      | dup2 =>
        refine Or.inl ((show m_il h _ from ?_) q hs)
        simp only [m_ex]
        repeat' split
        all_goals first | exact il_none | exact il_id | exact il_tg | exact il_br
      | lcmp =>
        refine Or.inl ((show m_il h _ from ?_) q hs)
        simp only [m_ex]
        repeat' split
        all_goals first | exact il_none | exact il_id | exact il_tg | exact il_br
      | ldc2_w k =>
        refine Or.inl ((show m_il h _ from ?_) q hs)
        simp only [m_ex]
        repeat' split
        all_goals first | exact il_none | exact il_id | exact il_tg | exact il_br
      | ifCond cc o =>
        refine Or.inl ((show m_il h _ from ?_) q hs)
        simp only [m_ex]
        repeat' split
        all_goals first | exact il_none | exact il_id | exact il_tg | exact il_br
      | if_icmp cc o =>
        refine Or.inl ((show m_il h _ from ?_) q hs)
        simp only [m_ex]
        repeat' split
        all_goals first | exact il_none | exact il_id | exact il_tg | exact il_br
      | ifnull o =>
        refine Or.inl ((show m_il h _ from ?_) q hs)
        simp only [m_ex]
        repeat' split
        all_goals first | exact il_none | exact il_id | exact il_tg | exact il_br
      | ifnonnull o =>
        refine Or.inl ((show m_il h _ from ?_) q hs)
        simp only [m_ex]
        repeat' split
        all_goals first | exact il_none | exact il_id | exact il_tg | exact il_br
      | tableswitch d lo hi offs =>
        refine Or.inl ((show m_il h _ from ?_) q hs)
        simp only [m_ex]
        repeat' split
        all_goals first | exact il_none | exact il_id | exact il_tg | exact il_br
      | invokestatic k =>
        cases (m_l1 (a := 0) 3 (by decide) hlen)
        rcases il_e_call hs with h9 | ⟨cl, h9⟩
        · exact Or.inl h9
        · subst h9
          exact Or.inr (Or.inr ⟨cl, 0, k, _, rfl, hd, Or.inl ⟨rfl, rfl⟩, hs⟩)
      | invokevirtual k =>
        cases (m_l1 (a := 0) 3 (by decide) hlen)
        rcases il_e_call hs with h9 | ⟨cl, h9⟩
        · exact Or.inl h9
        · subst h9
          exact Or.inr (Or.inr ⟨cl, 1, k, _, rfl, hd, Or.inr (Or.inl ⟨rfl, rfl⟩), hs⟩)
      | invokespecial k =>
        cases (m_l1 (a := 0) 3 (by decide) hlen)
        rcases il_e_call hs with h9 | ⟨cl, h9⟩
        · exact Or.inl h9
        · subst h9
          exact Or.inr (Or.inr ⟨cl, 2, k, _, rfl, hd, Or.inr (Or.inr ⟨rfl, rfl⟩), hs⟩)
      | ireturn =>
        cases (m_l1 (a := 0) 1 (by decide) hlen)
        simp only [m_ex] at hs
        split at hs
        · split at hs
          · next hr9 =>
            cases hs
            exact Or.inr (Or.inl ⟨_, _, rfl, hd, Or.inl ⟨_, rfl, rfl, hr9⟩, rfl⟩)
          · cases hs
        · cases hs
      | lreturn =>
        cases (m_l1 (a := 0) 1 (by decide) hlen)
        simp only [m_ex] at hs
        split at hs
        · split at hs
          · next hr9 =>
            cases hs
            exact Or.inr (Or.inl ⟨_, _, rfl, hd, Or.inr (Or.inl ⟨_, rfl, rfl, hr9⟩), rfl⟩)
          · cases hs
        · cases hs
      | areturn =>
        cases (m_l1 (a := 0) 1 (by decide) hlen)
        simp only [m_ex] at hs
        split at hs
        · split at hs
          · next hr9 =>
            cases hs
            exact Or.inr (Or.inl ⟨_, _, rfl, hd, Or.inr (Or.inr (Or.inl ⟨_, rfl, rfl, hr9⟩)), rfl⟩)
          · cases hs
        · cases hs
      | return_ =>
        cases (m_l1 (a := 0) 1 (by decide) hlen)
        simp only [m_ex] at hs
        split at hs
        · split at hs
          · next hr9 =>
            cases hs
            exact Or.inr (Or.inl ⟨_, _, rfl, hd, Or.inr (Or.inr (Or.inr ⟨rfl, rfl, hr9⟩)), rfl⟩)
          · cases hs
        · cases hs
      | _ => exact absurd hs (by simp [m_ex])
    · cases hs
  · cases hs
def m_rn : Nat → Nat → Nat → List (Nat × Value) → List Value → MH → Option (Option Value × MH)
  | 0, _, _, _, _, _ => none
  | n + 1, i, pc, lv, st, h => match m_st i pc lv st h with
    | some (.inl (pc', lv', st', h')) => m_rn n i pc' lv' st' h'
    | some (.inr (.inl q)) => some q
    | some (.inr (.inr (j, as, r, pc'))) => if m_cat as ≤ m_lc j then (match m_rn n j 0 (lv_args 0 as) [] h with
      | some (v, h') => m_rn n i pc' lv (v.toList ++ r) h'
      | none => none) else none
    | none => none
theorem m_mono : ∀ (n i pc : Nat) (lv : List (Nat × Value)) (st : List Value) (h : MH) (v : Option Value) (h' : MH), m_rn n i pc lv st h = some (v, h') → h_n h ≤ h_n h' ∧ h_z h ≤ h_z h'
  | 0, _, _, _, _, _, _, _, hr => by cases hr
  | n + 1, i, pc, lv, st, h, v, h', hr => by
    rw [m_rn] at hr
    split at hr
    · next pc1 lv1 st1 h1 hs =>
      rcases m_stq hs with ⟨S, g1, g2, g3⟩ | ⟨v9, ins, g1, -⟩ | ⟨cl, kd, idx, ins, g1, -⟩
      · cases g1
        obtain ⟨k1, k2⟩ := m_mono n _ _ _ _ _ _ _ hr
        exact ⟨Nat.le_trans g2 k1, Nat.le_trans g3 k2⟩
      · cases g1
      · cases g1
    · next q hs =>
      cases hr
      rcases m_stq hs with ⟨S, g1, -⟩ | ⟨v9, ins, g1, -⟩ | ⟨cl, kd, idx, ins, g1, -⟩
      · cases g1
      · cases g1
        exact ⟨Nat.le_refl _, Nat.le_refl _⟩
      · cases g1
    · next j as r pc1 hs =>
      split at hr
      · split at hr
        · next v1 h1 hr1 =>
          obtain ⟨k1, k2⟩ := m_mono n _ _ _ _ _ _ _ hr1
          obtain ⟨k3, k4⟩ := m_mono n _ _ _ _ _ _ _ hr
          exact ⟨Nat.le_trans k1 k3, Nat.le_trans k2 k4⟩
        · cases hr
      · cases hr
    · cases hr
end RUN
-- how a run ends in its frame
def m_RET (p : Program) (l : Launch) (e : Env) (R : Room) (s : State) (m : MethodId) (args : Array Value) (below : List Frame) (meth : Method) (c : Code) (Q : State → Prop) (i : Nat) (D : va_G) (tA : Nat → ClassId) (cst : Nat → Value) (b : Nat) (v : Option Value) (h' : MH) (cE sE : Nat) : Prop :=
  ∀ (pc : Nat) (ls : Array Slot) (H : Heap) (locs : List Loc) (ins : Instr), decode (m_m i).2.2.1 pc = .ok (ins, 1) → m_ri (m_rt i) ins v → HR D tA cst b s h' H → (∀ q ∈ locs, b ≤ q.base) → W p l e R s m args below meth c H locs cE sE Q (F0 m pc ls (v.map (mv cst b)).toList)
theorem m_rokS {t : Option FieldType} {x : Int32} (h : m_rok t x = true) : ∃ ty, t = some ty ∧ narrow ty (.int x) = .int x := by
  unfold m_rok at h
  split at h
  · exact ⟨_, rfl, rfl⟩
  · exact ⟨_, rfl, congrArg Value.int (of_decide_eq_true h)⟩
  · exact ⟨_, rfl, congrArg Value.int (of_decide_eq_true h)⟩
  · exact ⟨_, rfl, congrArg Value.int (of_decide_eq_true h)⟩
  · cases h
theorem m_rrS {t : Option FieldType} (h : m_rr t = true) : ∃ ty, t = some ty ∧ ((∃ n, ty = .object n) ∨ ∃ t, ty = .array t) := by
  unfold m_rr at h
  split at h
  · exact ⟨_, rfl, Or.inl ⟨_, rfl⟩⟩
  · exact ⟨_, rfl, Or.inr ⟨_, rfl⟩⟩
  · cases h
theorem m_plain {j : Nat} (hj : j < 292) (n1 : j ≠ m_jmin) (n2 : j ≠ m_jmax) (n3 : j ≠ m_jminl) (n4 : j ≠ m_jmaxl) : plainName (m_m j).2.1.cls = true := by
  have h2 : (List.range 292).all (fun j => decide (j = m_jmin) || decide (j = m_jmax) || decide (j = m_jminl) || decide (j = m_jmaxl) || plainName (m_m j).2.1.cls) = true := by decide +kernel
  have h3 := List.all_eq_true.mp h2 j (List.mem_range.mpr hj)
  simpa [n1, n2, n3, n4] using h3
-- the words of a method's arguments fit its locals
def m_szok (j : Nat) (as : List Value) : Prop := m_cat as ≤ m_lc j
theorem m_lgsz {cst : Nat → Value} {b : Nat} (hc : m_cok cst) (as : List Value) : (lg_sl (as.map (mv cst b))).length = m_cat as := by
  induction as with
  | nil => rfl
  | cons x t ih =>
    have e1 : lg_sl ((x :: t).map (mv cst b)) = (if (mv cst b x).category = 2 then [Slot.val (mv cst b x), Slot.second] else [Slot.val (mv cst b x)]) ++ lg_sl (t.map (mv cst b)) := rfl
    rw [e1, List.length_append, ih, mv_cat hc]
    have e2 : m_cat (x :: t) = x.category + m_cat t := rfl
    rw [e2]
    rcases lv_cat x with q | q <;> rw [q] <;> rfl
-- a method's run is its contract
theorem m_callj {kd i idx pc : Nat} {lv : List (Nat × Value)} {st : List Value} {h : MH} {j : Nat} {as r : List Value} {pc' : Nat} (hs : e_call kd i idx pc lv st h = some (.inr (.inr (j, as, r, pc')))) : 0 < j ∧ j < 292 ∧ j ≠ m_jmin ∧ j ≠ m_jmax ∧ j ≠ m_jminl ∧ j ≠ m_jmaxl ∧ as.length ≤ 1 + m_na j := by
  revert hs
  unfold e_call
  split
  · next nest j9 hf =>
    split
    · split
      · split <;> simp [m_go]
      · simp
    · split
      · split
        · intro hs
          obtain ⟨S, g1, -⟩ := il_e_cp _ hs
          cases g1
        · simp
      · split
        · split
          · split <;> simp [m_go]
          · simp
        · next hm1 =>
          split
          · split
            · split <;> simp [m_go]
            · simp
          · next hm2 =>
            split
            · next hk =>
              obtain ⟨g1, g2, -⟩ := hk
              split
              · split
                · intro hs
                  cases hs
                  refine ⟨g1, g2, fun q => hm1 (Or.inl q), fun q => hm1 (Or.inr q), fun q => hm2 (Or.inl q), fun q => hm2 (Or.inr q), ?_⟩
                  rw [List.length_reverse, List.length_take]
                  omega
                · simp
              · split
                · next a r9 hdrop =>
                  by_cases hst : m_na j9 + 1 ≤ st.length ∧ m_cat r9 ≤ 8 ∧ (if (m_m j9).2.1.cls = "java/lang/String" then (h_k h a).1 = 40 else m_cnm ((h_k h a).1 - 1) = (m_m j9).2.1.cls ∧ 16 ≤ a ∧ 0 < (h_k h a).1 ∧ (h_k h a).1 < 11)
                  · rw [if_pos hst]
                    intro hs
                    cases hs
                    refine ⟨g1, g2, fun q => hm1 (Or.inl q), fun q => hm1 (Or.inr q), fun q => hm2 (Or.inl q), fun q => hm2 (Or.inr q), ?_⟩
                    rw [List.length_cons, List.length_reverse, List.length_take]
                    omega
                  · rw [if_neg hst]
                    simp
                · simp
            · simp
  · simp
theorem m_metI (l : Launch) (D : va_G) (tA : Nat → ClassId) (cst : Nat → Value) (b : Nat) {j : Nat} {as : List Value} {h : MH} {v : Option Value} {h' : MH}
    (hrun : ∀ {p : Program} {e : Env} {R : Room} {s : State} {m : MethodId} {args : Array Value} {below : List Frame} {meth : Method} {c : Code} {Q : State → Prop}, SC p s m args meth c R j D tA cst b → ∀ (H : Heap) (locs : List Loc) (cells slots : Nat) (ls : Array Slot), HR D tA cst b s h H → (∀ q ∈ locs, b ≤ q.base) → lv_has ls (m_lc j) (ml cst b (lv_args 0 as)) → cells + (h_n h' - h_n h) ≤ R.cells → slots + (h_z h' - h_z h) ≤ R.slots → m_RET p l e R s m args below meth c Q j D tA cst b v h' (cells + (h_n h' - h_n h)) (slots + (h_z h' - h_z h)) → W p l e R s m args below meth c H locs cells slots Q (F0 m 0 ls (([] : List Value).map (mv cst b))))
    {kd i idx pc : Nat} {lv : List (Nat × Value)} {st : List Value} {r : List Value} {pc' : Nat} (hs : e_call kd i idx pc lv st h = some (.inr (.inr (j, as, r, pc')))) (hc : m_cok cst) (hsz : m_szok j as) : m_met l D tA cst b j as h v h' := by
  obtain ⟨hj0, hjN, n1, n2, n3, n4, -⟩ := m_callj hs
  unfold m_met
  refine Met.ofW (cc := (m_m j).2.2.1) (maxL := m_lc j) (ret := m_rt j) (m_plain hjN n1 n2 n3 n4) rfl ?_
  intro p e s m args below meth c s₁ B hml hv
  obtain ⟨hargs, hR, hks⟩ := hv
  have hts := atoms_spec (ws := m_ws j) B.pre
  have C : SC p s m args meth c (headSpec (m_ws j) (m_rm j (h_n h' - h_n h) (h_z h' - h_z h))).room j D tA cst b := ⟨B.exec, B.bytes, hml, findClass_of_methodNamed B.named, fun w hw => hts w (List.mem_cons_of_mem _ hw), B.notSynchronized, fun hk => by
    have h9 := (name_of_methodNamed B.named B.method).1
    rw [h9]
    have hnok := m_kn _ (m_mem j)
    simp only [m_nok, Bool.and_eq_true, decide_eq_true_eq] at hnok
    exact (hnok.2.2.2.2 hk).1, Nat.le_refl _, Nat.le_refl _, hks, hc, B.returns⟩
  subst hargs
  rw [lg_entry_eq]
  have hl := lv_entry (as.map (mv cst b)) (n := m_lc j) (by rw [m_lgsz hc]; exact hsz)
  rw [ml_args hc] at hl
  refine hrun C s.heap [] 0 0 _ hR (fun q hq => by cases hq) hl ?_ ?_ ?_
  · show 0 + _ ≤ h_n h' - h_n h
    omega
  · show 0 + _ ≤ h_z h' - h_z h
    omega
  · intro pc ls H locs ins hd hri hR1 hlo
    rw [Nat.zero_add, Nat.zero_add]
    have hq : ∀ t : State, t.heap = H → s.WarmedH t.vm → m_Qc D tA cst b v h' ((as.map (mv cst b)).toArray) s (.returned (v.map (mv cst b))) t := fun t ht hW => ⟨rfl, by rw [ht]; exact HR.moved hW.alike hR1⟩
    have hlocks := B.notSynchronized
    rcases hri with ⟨x, e1, e2, e3⟩ | ⟨x, e1, e2, e3⟩ | ⟨x, e1, e2, e3⟩ | ⟨e1, e2, e3⟩
    · subst e1
      subst e2
      obtain ⟨ty, hty, hn⟩ := m_rokS e3
      exact W.zret B.exec B.bytes (B.returns.trans hty) hn hq hlo hd
    · subst e1
      subst e2
      exact W.lret B.exec B.bytes (B.returns.trans e3) hq hlo hd
    · subst e1
      subst e2
      obtain ⟨ty, hty, hn⟩ := m_rrS e3
      exact W.aret B.exec B.bytes (B.returns.trans hty) hn (mv_ref hc x) hq hlo hd
    · subst e1
      subst e2
      exact W.vret B.exec B.bytes (B.returns.trans e3) hq hlo hd
theorem m_sim (l : Launch) (D : va_G) (tA : Nat → ClassId) (cst : Nat → Value) (b : Nat) : ∀ (n i pc : Nat) (lv : List (Nat × Value)) (st : List Value) (h : MH) (v : Option Value) (h' : MH), m_rn n i pc lv st h = some (v, h') →
    ∀ {p : Program} {e : Env} {R : Room} {s : State} {m : MethodId} {args : Array Value} {below : List Frame} {meth : Method} {c : Code} {Q : State → Prop}, SC p s m args meth c R i D tA cst b → ∀ (H : Heap) (locs : List Loc) (cells slots : Nat) (ls : Array Slot), HR D tA cst b s h H → (∀ q ∈ locs, b ≤ q.base) → lv_has ls (m_lc i) (ml cst b lv) → cells + (h_n h' - h_n h) ≤ R.cells → slots + (h_z h' - h_z h) ≤ R.slots → m_RET p l e R s m args below meth c Q i D tA cst b v h' (cells + (h_n h' - h_n h)) (slots + (h_z h' - h_z h)) →
      W p l e R s m args below meth c H locs cells slots Q (F0 m pc ls (st.map (mv cst b)))
  | 0, _, _, _, _, _, _, _, hr => by cases hr
  | n + 1, i, pc, lv, st, h, v, h', hr => fun C H locs cells slots ls hR hlo hl hcl hsl hret => by
    rw [m_rn] at hr
    split at hr
    · next pc1 lv1 st1 h1 hs =>
      obtain ⟨k1, k2⟩ := m_mono n _ _ _ _ _ _ _ hr
      have hgg : h_n h ≤ h_n h1 ∧ h_z h ≤ h_z h1 := by
        rcases m_stq hs with ⟨S, g1, g2⟩ | ⟨v9, ins, g1, -⟩ | ⟨cl, kd, idx, ins, g1, -⟩
        · cases g1
          exact g2
        · cases g1
        · cases g1
      obtain ⟨g1, g2⟩ := hgg
      refine (m_inl C hR hlo hl (by omega) (by omega) hs).2 (by dsimp only; omega) (by dsimp only; omega) (fun H' locs' ls' a1 a2 a3 => ?_)
      dsimp only at a1 a2 a3 ⊢
      refine m_sim l D tA cst b n _ _ _ _ _ _ _ hr C H' locs' _ _ ls' a1 a2 a3 (by omega) (by omega) ?_
      rw [show cells + (h_n h1 - h_n h) + (h_n h' - h_n h1) = cells + (h_n h' - h_n h) by omega, show slots + (h_z h1 - h_z h) + (h_z h' - h_z h1) = slots + (h_z h' - h_z h) by omega]
      exact hret
    · next q hs =>
      cases hr
      rcases m_stq hs with ⟨S, g1, -⟩ | ⟨v9, ins, g1, g2, g3, g4⟩ | ⟨cl, kd, idx, ins, g1, -⟩
      · cases g1
      · cases g1
        rw [Nat.sub_self, Nat.sub_self] at hret
        have hst : st.map (mv cst b) = (v.map (mv cst b)).toList := by
          rw [g4]
          cases v <;> rfl
        rw [hst]
        exact hret pc ls H locs ins g2 g3 hR hlo
      · cases g1
    · next j as r pc1 hs =>
      split at hr
      · next hsz =>
       split at hr
       · next v1 h1 hr1 =>
        obtain ⟨k1, k2⟩ := m_mono n _ _ _ _ _ _ _ hr1
        obtain ⟨k3, k4⟩ := m_mono n _ _ _ _ _ _ _ hr
        rcases m_stq hs with ⟨S, g1, -⟩ | ⟨v9, ins, g1, -⟩ | ⟨cl, kd, idx, ins, g1, g2, g3, g4⟩
        · cases g1
        · cases g1
        · cases g1
          refine m_callW C hR hlo hl g2 g3 g4 (m_metI l D tA cst b (fun {p e R s m args below meth c Q} C9 H9 locs9 cells9 slots9 ls9 => m_sim l D tA cst b n _ _ _ _ _ _ _ hr1 C9 H9 locs9 cells9 slots9 ls9) g4 C.2.2.2.2.2.2.2.2.2.2.1 hsz) (by omega) (by omega) (fun hpc H' locs' a1 a2 => ?_)
          refine m_sim l D tA cst b n _ _ _ _ _ _ _ hr C H' locs' _ _ ls a1 a2 hl (by omega) (by omega) ?_
          rw [show cells + (h_n h1 - h_n h) + (h_n h' - h_n h1) = cells + (h_n h' - h_n h) by omega, show slots + (h_z h1 - h_z h) + (h_z h' - h_z h1) = slots + (h_z h' - h_z h) by omega]
          exact hret
       · cases hr
      · cases hr
    · cases hr
end
section
/-! THE CLAIM OUT OF ONE WALK OF THE LAW'S BODY. Your part is whole_start (and what it stands on); all else here is the same for every law, but numbers. -/
def R_law : String := "PastHeapsLaw"
def lw_P (b : Addr) (xs : List Int32) (args : Array Value) (s : State) : Prop := args = #[.ref b] ∧ s.IntsAt b xs ∧ xs.length ≤ 448 ∧ (Jvm.Cond.and given_1 narrow_1).before args s = true
def lw_Q (_ : Array Value) (s : State) (o : Outcome) (t : State) : Prop := o = .returned (some (.int 1)) ∧ Framed s o t [] 600000 7302250
def lw_Z (below : List Frame) (a : Array Value) (s : State) : State → Prop := fun t => ∃ o, t.status = .running ∧ Ended t below o ∧ lw_Q a s o t
/-- the law's own end, with 1 on the stack, nothing written that was there before, its room as the claim has it -/
theorem lw_ret {p : Program} {l : Launch} {e : Env} {s : State} {m : MethodId} {below : List Frame} {meth : Method} {c : Code} {b : Nat} (hx : p.tables.exec = Jvm.exec) (hb : c.code = code) (hr : meth.sig.returnType = ret) (hlocks : meth.locks = false) {pc : Nat} {H : Heap} {ls : Array Slot} (hdg : decode code pc = .ok (.ireturn, 1)) : W p l e room_1 s m #[Value.ref b] below meth c H [] 600000 7302250 (lw_Z below #[Value.ref b] s) (F0 m pc ls [.int 1]) := by
  intro T hT X
  obtain ⟨fs, hret, hrun, hended, hW, hframe⟩ := X.leave (v := some (.int 1)) (hlocks := hlocks) (fun h => by rw [hr] at h; cases h)
  have hmeth' : T.vm.method? m = some meth := X.method'
  refine ⟨T.setFrames fs, ?_, .returned (some (.int 1)), hrun, hended, rfl, ⟨_, rfl⟩, hW, hframe⟩
  jvm_step X.here [X.here.top, hx, hb, hdg, hmeth', hr, ret, narrow_b1]
  (try refine ⟨rfl, ?_⟩); (try refine ⟨rfl, ?_⟩)
  first | (intro acts; rw [hret _ acts rfl rfl rfl]) | rw [hret _ _ rfl rfl rfl]
  exact Steps.refl _
/-- what holds at the law's entry: the machine, the code, the tables' words (any of lw_tbl by 'hts w (by decide +kernel)'), the script of L ints xs at the cell b, what the Statement gives of the start (any of its parts by flat_of_before) -/
def lw_At (p : Program) (s : State) (m : MethodId) (meth : Method) (c : Code) (b L : Nat) (xs : Nat → Int32) : Prop :=
  p.tables.exec = Jvm.exec ∧ c.code = code ∧ meth.sig.returnType = ret ∧ c.maxLocals = 4 ∧ s.vm.findClass R_law = some m.cls ∧ (∀ w ∈ lw_tbl, w.before #[Value.ref b] s = true) ∧ va_X b L xs s s.heap ∧ b < s.heap.size ∧ meth.locks = false ∧ (Jvm.Cond.and given_1 narrow_1).before #[Value.ref b] s = true
end
section
-- THE START: what the Statement gives of it, as the small machine has it
def m_tm (k : Nat) : Term := .string (m_strs.getD k ("", 0, "")).1 (m_strs.getD k ("", 0, "")).2.1
def m_sln : List Nat := [3, 3, 4, 4, 5, 3]
def m_sby : List (List Int32) := [[110, 101, 119], [112, 117, 116], [109, 101, 108, 100], [108, 101, 115, 115], [108, 111, 119, 101, 114], [99, 117, 116]]
def m_lim : List Int32 := [-1, -1, -1, 40, 99, -1, 40, 40, -1, 40, -1, -1, 40, 39, 99, 40, 99, -1]
def m_fl0 : List Cond := flatC (Jvm.Cond.and given_1 narrow_1)
theorem m_g1 : ∀ k, k < 6 → Cond.exactly (m_tm k) "java/lang/String" ∈ m_fl0 := by decide +kernel
theorem m_g2 : ∀ k, k < 6 → Cond.eq (.field (m_tm k) "java/lang/String" "coder" "B") (.int 0) ∈ m_fl0 := by decide +kernel
theorem m_g3 : ∀ k, k < 6 → Cond.arrayOf (.field (m_tm k) "java/lang/String" "value" "[B") .byte ∈ m_fl0 := by decide +kernel
theorem m_g4 : ∀ k, k < 6 → Cond.eq (.length (.field (m_tm k) "java/lang/String" "value" "[B")) (.int (Int32.ofNat (m_sln.getD k 0))) ∈ m_fl0 := by decide +kernel
theorem m_g5 : ∀ k, k < 6 → ∀ j, j < m_sln.getD k 0 → Cond.eq (.elem (.field (m_tm k) "java/lang/String" "value" "[B") (.int (Int32.ofNat j))) (.int ((m_sby.getD k []).getD j 0)) ∈ m_fl0 := by decide +kernel
theorem m_g6 : ∀ k, k < 6 → ∀ j, j < 6 → k ≠ j → Cond.not (Cond.eq (m_tm k) (m_tm j)) ∈ m_fl0 ∨ Cond.not (Cond.eq (m_tm j) (m_tm k)) ∈ m_fl0 := by decide +kernel
theorem m_g7 : Cond.arrayOf (.static "PastHeaps" "LIMITS" "[I") .int ∈ m_fl0 := by decide +kernel
theorem m_g8 : Cond.eq (.length (.static "PastHeaps" "LIMITS" "[I")) (.int 18) ∈ m_fl0 := by decide +kernel
theorem m_g9 : ∀ j, j < 18 → Cond.eq (.elem (.static "PastHeaps" "LIMITS" "[I") (.int (Int32.ofNat j))) (.int (m_lim.getD j 0)) ∈ m_fl0 := by decide +kernel
theorem m_g10 : Cond.eq (.static "java/lang/String" "COMPACT_STRINGS" "Z") (.int 1) ∈ m_fl0 := by decide +kernel
theorem m_g11 : Cond.isRef (.static "jdk/internal/util/Preconditions" "SIOOBE_FORMATTER" "Ljava/util/function/BiFunction;") ∈ m_fl0 := by decide +kernel
theorem m_wst : ∀ w ∈ [Cond.laysStatic "java/lang/String" "COMPACT_STRINGS" "Z", .laysStatic "PastHeaps" "LIMITS" "[I", .laysStatic "jdk/internal/util/Preconditions" "SIOOBE_FORMATTER" "Ljava/util/function/BiFunction;", .initialized "java/lang/String", .initialized "PastHeaps", .initialized "jdk/internal/util/Preconditions"], w ∈ lw_tbl := m_memL [384, 449, 400, 113, 105, 115] (by decide +kernel)
theorem m_wsr : ∀ w ∈ m_strs.map (fun q => Cond.stringRef q.1 q.2.1 q.2.2), w ∈ lw_tbl := m_memL [365, 366, 367, 368, 369, 370] (by decide +kernel)
-- the small machine's heap at the start: what stands still alone
def m_kd0 (L a : Nat) : Nat × Nat := if a = 1 then (20, 18) else if 2 ≤ a ∧ a < 8 then (40, 0) else if 8 ≤ a ∧ a < 14 then (21, m_sln.getD (a - 8) 0) else if a = 14 then (20, L) else (0, 0)
def m_hi0 (xs : Nat → Int32) (a j : Nat) : Int32 := if a = 1 then m_lim.getD j 0 else if 8 ≤ a ∧ a < 14 then (m_sby.getD (a - 8) []).getD j 0 else if a = 14 then xs j else 0
def m_hr0 (a k : Nat) : Nat := if 2 ≤ a ∧ a < 8 ∧ k = 0 then a + 6 else 0
def m_h0 (L : Nat) (xs : Nat → Int32) : MH := ((0, 0), m_kd0 L, m_hi0 xs, fun _ _ => 0, m_hr0)
theorem m_arrc {args : Array Value} {s : State} {ty : FieldType} (h : (Cond.arrayClass ty).before args s = true) : ∃ cA : ClassId, s.vm.findClass ("[" ++ ty.toString) = some cA ∧ ArrOfT s cA ty := by
  obtain ⟨cA, kA, comp, h1, h2, h3⟩ := Cond.arrayClass_spec h
  exact ⟨cA, h1, fun n z => ⟨(fun k h => by cases h), kA, h2, comp, h3⟩⟩
theorem m_arro {s : State} {C9 : String} (h : va_AO C9 s) : ∃ cA : ClassId, ArrOfT s cA (.object C9) ∧ va_RA s cA (.object C9) := by
  obtain ⟨comp, cA, kA, h1, -, h3, h4, h5⟩ := Cond.arrayOver_spec h
  exact ⟨cA, fun n z => ⟨(fun k h => by cases h), kA, h3, comp, h4⟩, kA, comp, h3, h4, h1, h5⟩
theorem m_arra {s : State} {ty : FieldType} (h : (Cond.arrayOver (.array ty)).before #[] s = true) : ∃ cA : ClassId, ArrOfT s cA (.array ty) ∧ va_RA s cA (.array ty) := by
  obtain ⟨comp, cA, kA, -, -, h3, h4, h5⟩ := arrayOverA_spec h
  exact ⟨cA, fun n z => ⟨(fun k h => by cases h), kA, h3, comp, h4⟩, h5⟩
set_option maxHeartbeats 1000000 in
set_option maxRecDepth 10000 in
-- the law, from its entry, by a run of the small machine
theorem m_law {p : Program} {e : Env} {s : State} {m : MethodId} {below : List Frame} {meth : Method} {c : Code} (l : Launch) {b L : Nat} {xs : Nat → Int32} (hL : L ≤ 448) (C0 : lw_At p s m meth c b L xs) (hrun : ∃ (n : Nat) (h' : MH), m_rn n 0 0 [(0, .ref 14)] [] (m_h0 L xs) = some (some (.int 1), h') ∧ h_n h' ≤ 600000 ∧ h_z h' ≤ 7302250) : W p l e room_1 s m #[Value.ref b] below meth c s.heap [] 0 0 (lw_Z below #[Value.ref b] s) (entryFrame m ([Value.ref b] : List Value).toArray 4) := by
  obtain ⟨hx, hb, hr, hml, hown, hts, hX, hbl, hlocks, hgv⟩ := id C0
  obtain ⟨n, h', hrun, hn', hz'⟩ := hrun
  have hA : ∀ a : Nat, a < s.heap.size → ¬ (fun q : Nat => s.heap.size ≤ q) a := fun a h => Nat.not_le.mpr h
  have hs : ∀ w ∈ m_fl0, w.before #[Value.ref b] s = true := flat_of_before _ hgv
  -- classes
  have hKn : ∀ k : Nat, ∃ x : ClassId × (Nat → Nat), ∀ q : vw_C, m_cl[k]? = some q → u_Kn s q.1 q.2.1 q.2.2 x.1 x.2 := by
    intro k
    rcases Nat.lt_or_ge k 10 with hk | hk
    · obtain ⟨q, ty, h1, h2, h3, h4, h5, h6, h7, h8⟩ := m_cfs k hk
      obtain ⟨cC, iS, hK⟩ := u_known hts h3 (hts _ h7)
      exact ⟨(cC, iS), fun q9 hq9 => by cases h1.symm.trans hq9; exact hK⟩
    · exact ⟨(0, fun _ => 0), fun q9 hq9 => by
        have : m_cl.length = 10 := rfl
        rw [List.getElem?_eq_none (by omega)] at hq9
        cases hq9⟩
  obtain ⟨dX, hdX⟩ := Classical.axiomOfChoice hKn
  -- rows
  obtain ⟨a0, a01, a02⟩ := m_arrc (hts _ (m_karr _ (List.mem_of_getElem? (i := 0) rfl)))
  obtain ⟨a1, a11, a12⟩ := m_arrc (hts _ (m_karr _ (List.mem_of_getElem? (i := 1) rfl)))
  obtain ⟨a2, a21, a22⟩ := m_arrc (hts _ (m_karr _ (List.mem_of_getElem? (i := 2) rfl)))
  obtain ⟨a3, a31, a32⟩ := m_arrc (hts _ (m_karr _ (List.mem_of_getElem? (i := 3) rfl)))
  have o6 : va_AO RX6 s := va_AO.of (hts _ (m_karr _ (List.mem_of_getElem? (i := 4) rfl)))
  have o3 : va_AO RX3 s := va_AO.of (hts _ (m_karr _ (List.mem_of_getElem? (i := 5) rfl)))
  have o0 : va_AO RX0 s := va_AO.of (hts _ (m_karr _ (List.mem_of_getElem? (i := 6) rfl)))
  have oA : (Cond.arrayOver (.array .int)).before #[] s = true := over_moved (Vm.Alike.refl _) (hts _ (m_karr _ (List.mem_of_getElem? (i := 7) rfl)))
  obtain ⟨a4, a41, a42⟩ := m_arro o6
  obtain ⟨a5, a51, a52⟩ := m_arro o3
  obtain ⟨a6, a61, a62⟩ := m_arro o0
  obtain ⟨a7, a71, a72⟩ := m_arra oA
  -- what stands still
  obtain ⟨adK, adV, hS9, hSev⟩ := vk_Sof (args := #[Value.ref b]) (s := s) (N := 6) (tm := m_tm) (len := m_sln) (byt := m_sby) (A := fun q => s.heap.size ≤ q) (by decide) (fun k hk => hs _ (m_g1 k hk)) (fun k hk => hs _ (m_g2 k hk)) (fun k hk => hs _ (m_g3 k hk)) (fun k hk => hs _ (m_g4 k hk)) (fun k hk j hj => hs _ (m_g5 k hk j hj)) (fun k j hk hj hne => (m_g6 k hk j hj hne).imp (hs _) (hs _)) hA
  obtain ⟨tL, hTe, hTT⟩ := va_Tof (args := #[Value.ref b]) (s := s) (tm := .static "PastHeaps" "LIMITS" "[I") (ty := .int) (N := 18) (f := fun j => .int (m_lim.getD j 0)) (A := fun q => s.heap.size ≤ q) (by decide) (hs _ m_g7) (va_eqt (hs _ m_g8)) (fun j hj => va_eqt (hs _ (m_g9 j hj))) hA
  have z1 : va_Z "java/lang/String" "COMPACT_STRINGS" "Z" (.int 1) (fun q => s.heap.size ≤ q) s s.heap := va_Zof (hts _ (m_wst _ (List.mem_of_getElem? (i := 0) rfl))) (hts _ (m_wst _ (List.mem_of_getElem? (i := 3) rfl))) (va_eqt (hs _ m_g10)) hA
  have z2 : va_Z "PastHeaps" "LIMITS" "[I" (.ref tL) (fun q => s.heap.size ≤ q) s s.heap := va_Zof (hts _ (m_wst _ (List.mem_of_getElem? (i := 1) rfl))) (hts _ (m_wst _ (List.mem_of_getElem? (i := 4) rfl))) hTe hA
  obtain ⟨vS, hvS, z3⟩ : ∃ vS : Value, (vS = .null ∨ ∃ r, vS = .ref r) ∧ va_Z "jdk/internal/util/Preconditions" "SIOOBE_FORMATTER" "Ljava/util/function/BiFunction;" vS (fun q => s.heap.size ≤ q) s s.heap := by
    rcases va_Zqof (A := fun q => s.heap.size ≤ q) (hts _ (m_wst _ (List.mem_of_getElem? (i := 2) rfl))) (hts _ (m_wst _ (List.mem_of_getElem? (i := 5) rfl))) (hs _ m_g11) hA with q | ⟨t, q⟩
    · exact ⟨_, Or.inl rfl, q⟩
    · exact ⟨_, Or.inr ⟨t, rfl⟩, q⟩
  obtain ⟨cst, hcst⟩ : ∃ cst : Nat → Value, cst = fun a => if a = 1 then .ref tL else if 2 ≤ a ∧ a < 8 then .ref (adK (a - 2)) else if 8 ≤ a ∧ a < 14 then .ref (adV (a - 8)) else if a = 14 then .ref b else if a = 15 then vS else .null := ⟨_, rfl⟩
  have hc : m_cok cst := by
    intro a
    rw [hcst]
    dsimp only
    repeat' split
    all_goals first | exact Or.inr ⟨_, rfl⟩ | exact hvS | exact Or.inl rfl
  have hlt : ∀ {q : Nat} {cell : Cell}, s.heap[q]? = some cell → q < s.heap.size := fun h => (Array.getElem?_eq_some_iff.mp h).1
  have hks : KS (fun k => (dX k).1, fun k => (dX k).2) (fun k => if k = 20 then a0 else if k = 21 then a1 else if k = 22 then a2 else if k = 25 then a3 else if k = 30 then a4 else if k = 31 then a5 else if k = 32 then a6 else a7) cst s := by
    refine ⟨⟨fun k q hq => hdX k q hq, fun k q hq => ?_⟩, fun w hw hn => va_Nw.of (by cases w <;> first | rfl | exact absurd hn (by simp [m_nest])) (hts w hw), o6, o3, o0, oA, fun k q hq => ?_⟩
    · match k, hq with
      | 0, hq => cases hq; exact ⟨a02, a01⟩
      | 1, hq => cases hq; exact ⟨a12, a11⟩
      | 2, hq => cases hq; exact ⟨a22, a21⟩
      | 3, hq => cases hq; exact ⟨a32, a31⟩
      | 4, hq => cases hq; exact ⟨a41, a42⟩
      | 5, hq => cases hq; exact ⟨a51, a52⟩
      | 6, hq => cases hq; exact ⟨a61, a62⟩
      | 7, hq => cases hq; exact ⟨a71, a72⟩
      | k + 8, hq => simp at hq
    · have hk : k < 6 := (List.getElem?_eq_some_iff.mp hq).1
      refine ⟨adK k, ?_, vk_R.of (hts _ (m_wsr _ (List.mem_map.mpr ⟨q, List.mem_of_getElem? hq, rfl⟩))) ?_⟩
      · rw [hcst]
        dsimp only
        rw [if_neg (by omega), if_pos (by omega), Nat.add_sub_cancel_left]
      · have h9 := hSev k hk
        have e9 : m_tm k = .string q.1 q.2.1 := by
          unfold m_tm
          rw [List.getD_eq_getElem?_getD, hq]
          rfl
        rw [e9] at h9
        exact h9
  have hR : HR (fun k => (dX k).1, fun k => (dX k).2) (fun k => if k = 20 then a0 else if k = 21 then a1 else if k = 22 then a2 else if k = 25 then a3 else if k = 30 then a4 else if k = 31 then a5 else if k = 32 then a6 else a7) cst s.heap.size s (m_h0 L xs) s.heap := by
    refine ⟨rfl, fun a h1 h2 => absurd h2 (by have : h_n (m_h0 L xs) = 0 := rfl; omega), fun a ha => ?_, fun a ha => ?_, ⟨z1, ?_, ?_⟩, rfl⟩
    · have : h_n (m_h0 L xs) = 0 := rfl
      show (m_kd0 L a).1 = 0
      unfold m_kd0
      rw [if_neg (by omega), if_neg (by omega), if_neg (by omega), if_neg (by omega)]
    · have hk0 : h_k (m_h0 L xs) a = m_kd0 L a := rfl
      have hi0 : h_i (m_h0 L xs) a = m_hi0 xs a := rfl
      have hr0 : h_r (m_h0 L xs) a = m_hr0 a := rfl
      unfold m_cst
      rw [hk0, hi0, hr0]
      by_cases c1 : a = 1
      · have e1 : m_kd0 L a = (20, 18) := by unfold m_kd0; rw [if_pos c1]
        rw [e1]
        obtain ⟨cell, g1, g2, g3, g4, g5, g6, g7⟩ := hTT
        refine ⟨tL, cell, by rw [hcst]; dsimp only; rw [if_pos c1], hlt g1, g1, g2, g3, g4, g5, fun j hj => ?_⟩
        rw [g6 j hj]
        unfold m_hi0
        rw [if_pos c1]
      · by_cases c2 : 2 ≤ a ∧ a < 8
        · have e1 : m_kd0 L a = (40, 0) := by unfold m_kd0; rw [if_neg c1, if_pos c2]
          rw [e1]
          obtain ⟨g1, g2, g3, g4⟩ := hS9.1 (a - 2) (by omega)
          have g0 := g1
          obtain ⟨cell, q1, -⟩ := g0
          have e2 : m_hi0 xs a 1 = 0 := by unfold m_hi0; rw [if_neg c1, if_neg (by omega), if_neg (by omega)]
          have e3 : m_hr0 a 0 = a + 6 := by unfold m_hr0; rw [if_pos ⟨c2.1, c2.2, rfl⟩]
          refine ⟨adK (a - 2), by rw [hcst]; dsimp only; rw [if_neg c1, if_pos c2], hlt q1, g1, by rw [e2]; exact g2, ?_⟩
          rw [e3, mv_cst (by omega) (by omega), hcst]
          dsimp only
          rw [if_neg (by omega), if_neg (by omega), if_pos (by omega), show a + 6 - 8 = a - 2 by omega]
          exact g3
        · by_cases c3 : 8 ≤ a ∧ a < 14
          · have e1 : m_kd0 L a = (21, m_sln.getD (a - 8) 0) := by unfold m_kd0; rw [if_neg c1, if_neg c2, if_pos c3]
            rw [e1]
            obtain ⟨g1, g2, g3, ⟨cell, q1, q2, q3, q4, q5, q6, q7⟩⟩ := hS9.1 (a - 8) (by omega)
            refine ⟨adV (a - 8), cell, by rw [hcst]; dsimp only; rw [if_neg c1, if_neg c2, if_pos c3], hlt q1, q1, q2, q3, q4, q5, fun j hj => ?_⟩
            rw [q6 j hj]
            unfold m_hi0
            rw [if_neg c1, if_pos c3]
          · by_cases c4 : a = 14
            · have e1 : m_kd0 L a = (20, L) := by unfold m_kd0; rw [if_neg c1, if_neg c2, if_neg c3, if_pos c4]
              rw [e1]
              obtain ⟨scr, g1, g2, g3, g4, g5⟩ := hX
              refine ⟨b, scr, by rw [hcst]; dsimp only; rw [if_neg c1, if_neg c2, if_neg c3, if_pos c4], hbl, g1, g2, g3, by rw [g4]; exact Nat.le_refl _, by rw [g4], fun j hj => ?_⟩
              rw [g5 j hj]
              unfold m_hi0
              rw [if_neg c1, if_neg c3, if_pos c4]
            · have e1 : m_kd0 L a = (0, 0) := by unfold m_kd0; rw [if_neg c1, if_neg c2, if_neg c3, if_neg c4]
              rw [e1]
              trivial
    · rw [hcst]
      exact z2
    · rw [hcst]
      exact z3
  have C : SC p s m #[Value.ref b] meth c room_1 0 (fun k => (dX k).1, fun k => (dX k).2) (fun k => if k = 20 then a0 else if k = 21 then a1 else if k = 22 then a2 else if k = 25 then a3 else if k = 30 then a4 else if k = 31 then a5 else if k = 32 then a6 else a7) cst s.heap.size := ⟨hx, hb, hml, hown, fun w hw => hts w (List.mem_filter.mp hw).1, hlocks, fun hk => absurd hk (by decide), by decide +kernel, by decide +kernel, hks, hc, hr⟩
  rw [lg_entry_eq]
  have hl := lv_entry ([.ref b] : List Value) (n := 4) (Nat.le_of_ble_eq_true rfl)
  have e14 : ml cst s.heap.size [(0, .ref 14)] = [(0, .ref b)] := by
    show [(0, mv cst s.heap.size (.ref 14))] = _
    rw [mv_cst (by decide) (by decide), hcst]
    rfl
  refine m_sim l _ _ cst s.heap.size n 0 0 _ _ _ _ _ hrun C s.heap [] 0 0 _ hR (fun q hq => by cases hq) (by rw [e14]; exact hl) ?_ ?_ ?_
  · show 0 + (h_n h' - 0) ≤ 600000
    omega
  · show 0 + (h_z h' - 0) ≤ 7302250
    omega
  · intro pc ls H locs ins hd hri hR1 hlo
    rcases hri with ⟨x, e1, e2, e3⟩ | ⟨x, e1, -⟩ | ⟨x, e1, -⟩ | ⟨e1, -⟩
    · cases e1
      subst e2
      refine va_forget hlo ?_
      refine W.widen (k := 600000) (n := 7302250) ?_ ?_ ?_
      · show 0 + (h_n h' - 0) ≤ 600000
        omega
      · show 0 + (h_z h' - 0) ≤ 7302250
        omega
      · exact lw_ret hx hb hr hlocks hd
    · cases e1
    · cases e1
    · cases e1
end
