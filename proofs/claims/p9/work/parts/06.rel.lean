-- HOW THE SMALL MACHINE'S HEAP AND THE REAL ONE AGREE
def mv (cst : Nat → Value) (b : Nat) : Value → Value
  | .ref a => if a = 0 then .null else if a < 16 then cst a else .ref (b + (a - 16))
  | v => v
def m_cok (cst : Nat → Value) : Prop := ∀ a, cst a = .null ∨ ∃ r, cst a = .ref r
theorem mv_ref {cst : Nat → Value} {b : Nat} (hc : m_cok cst) (a : Nat) : mv cst b (.ref a) = .null ∨ ∃ r, mv cst b (.ref a) = .ref r := by
  unfold mv
  by_cases h : a = 0
  · simp [h]
  · by_cases h2 : a < 16
    · simp only [h, h2, if_true, if_false]
      exact hc a
    · simp [h, h2]
theorem mv_cat {cst : Nat → Value} {b : Nat} (hc : m_cok cst) (v : Value) : (mv cst b v).category = v.category := by
  cases v with
  | ref a =>
    rcases mv_ref (b := b) hc a with h | ⟨r, h⟩ <;> rw [h] <;> rfl
  | _ => rfl
theorem mv_dyn {cst : Nat → Value} {b a : Nat} (h : 16 ≤ a) : mv cst b (.ref a) = .ref (b + (a - 16)) := by
  unfold mv
  simp [show ¬ a = 0 by omega, show ¬ a < 16 by omega]
theorem mv_0 {cst : Nat → Value} {b : Nat} : mv cst b (.ref 0) = .null := rfl
theorem mv_cst {cst : Nat → Value} {b a : Nat} (h0 : a ≠ 0) (h : a < 16) : mv cst b (.ref a) = cst a := by
  unfold mv
  simp [h0, h]
theorem mv_sum {cst : Nat → Value} {b : Nat} (hc : m_cok cst) (st : List Value) : ((st.map (mv cst b)).map fun v => v.category).sum = m_cat st := by
  unfold m_cat
  congr 1
  rw [List.map_map]
  apply List.map_congr_left
  intro v _
  exact mv_cat hc v
-- locals
def ml (cst : Nat → Value) (b : Nat) (lv : List (Nat × Value)) : List (Nat × Value) := lv.map (fun q => (q.1, mv cst b q.2))
theorem ml_get {cst : Nat → Value} {b nL k : Nat} {lv : List (Nat × Value)} {ls : Array Slot} {v : Value} (hl : lv_has ls nL (ml cst b lv)) (h : m_lk lv k = some v) : ls[k]? = some (.val (mv cst b v)) := by
  unfold m_lk at h
  cases hf : lv.find? (fun e => e.1 == k) with
  | none => rw [hf] at h; cases h
  | some q =>
    rw [hf] at h
    cases h
    have h1 := List.mem_of_find?_eq_some hf
    have h2 := List.find?_some hf
    have h3 : q.1 = k := by simpa using h2
    have := hl.2.2 (q.1, mv cst b q.2) (List.mem_map.mpr ⟨q, h1, rfl⟩)
    rw [h3] at this
    exact this
theorem ml_filter {cst : Nat → Value} {b : Nat} (hc : m_cok cst) (lv : List (Nat × Value)) (p : Nat → Nat → Bool) : (ml cst b lv).filter (fun q => p q.1 q.2.category) = ml cst b (lv.filter (fun q => p q.1 q.2.category)) := by
  unfold ml
  induction lv with
  | nil => rfl
  | cons x t ih =>
    simp only [List.map_cons, List.filter_cons, mv_cat hc]
    cases p x.1 x.2.category
    · simpa using ih
    · simp [ih]
theorem ml_s1 {cst : Nat → Value} {b : Nat} (hc : m_cok cst) (lv : List (Nat × Value)) (i : Nat) (v : Value) : (i, mv cst b v) :: (ml cst b lv).filter (fun q => !(q.1 == i) && !(q.1 + 1 == i && q.2.category == 2)) = ml cst b (m_s1 lv i v) := by
  have h := ml_filter (b := b) hc lv (fun a c => !(a == i) && !(a + 1 == i && c == 2))
  show _ :: _ = _ :: _
  rw [h]
  rfl
theorem ml_s2 {cst : Nat → Value} {b : Nat} (hc : m_cok cst) (lv : List (Nat × Value)) (i : Nat) (v : Value) : (i, mv cst b v) :: (ml cst b lv).filter (fun q => !(q.1 == i) && (!(q.1 == i + 1) && !(q.1 + 1 == i && q.2.category == 2))) = ml cst b (m_s2 lv i v) := by
  have h := ml_filter (b := b) hc lv (fun a c => !(a == i) && (!(a == i + 1) && !(a + 1 == i && c == 2)))
  show _ :: _ = _ :: _
  rw [h]
  rfl
theorem ml_args {cst : Nat → Value} {b : Nat} (hc : m_cok cst) : ∀ (vs : List Value) (i : Nat), lv_args i (vs.map (mv cst b)) = ml cst b (lv_args i vs)
  | [], _ => rfl
  | v :: vs, i => by
    show (i, mv cst b v) :: lv_args _ (vs.map (mv cst b)) = (i, mv cst b v) :: ml cst b (lv_args _ vs)
    rw [mv_cat hc, ml_args hc vs]
-- the cells
def m_fv (cst : Nat → Value) (b : Nat) (h : MH) (a c k : Nat) : Value := match (m_ty c k).1 with
  | 0 => .int (h_i h a k)
  | 1 => .long (h_l h a k)
  | _ => mv cst b (.ref (h_r h a k))
def m_av (cst : Nat → Value) (b : Nat) (h : MH) (a kd j : Nat) : Value := if kd < 25 then .int (h_i h a j) else if kd = 25 then .long (h_l h a j) else mv cst b (.ref (h_r h a j))
def m_okk (k : Nat) : Bool := k == 20 || k == 21 || k == 22 || k == 25 || k == 30 || k == 31 || k == 32 || k == 33
def m_cell (D : va_G) (tA : Nat → ClassId) (cst : Nat → Value) (b : Nat) (h : MH) (a : Nat) (H : Heap) : Prop :=
  (0 < (h_k h a).1 ∧ (h_k h a).1 < 11 ∧ t_OB (b + (a - 16)) (D.1 ((h_k h a).1 - 1)) (m_nf ((h_k h a).1 - 1)) (D.2 ((h_k h a).1 - 1)) H (m_fv cst b h a ((h_k h a).1 - 1))) ∨
  (m_okk (h_k h a).1 = true ∧ H[b + (a - 16)]? = some (arrV (tA (h_k h a).1) (h_k h a).2 (m_av cst b h a (h_k h a).1)) ∧ ((h_k h a).1 = 21 → ∀ j, fits .byte (.int (h_i h a j)) = true))
def m_cst (cst : Nat → Value) (b : Nat) (U : State) (h : MH) (a : Nat) (H : Heap) : Prop := match (h_k h a).1 with
  | 0 => True
  | 20 => ∃ (r : Nat) (cell : Cell), cst a = .ref r ∧ r < b ∧ H[r]? = some cell ∧ U.isArrayOf cell .int ∧ cell.vm ≠ .unknown ∧ (h_k h a).2 ≤ cell.slots.size ∧ cell.slots.size.toInt32 = Int32.ofNat (h_k h a).2 ∧ ∀ j : Nat, j < (h_k h a).2 → cell.slots[j]? = some (.int (h_i h a j))
  | 21 => ∃ (r : Nat) (cell : Cell), cst a = .ref r ∧ r < b ∧ H[r]? = some cell ∧ U.isArrayOf cell .byte ∧ cell.vm ≠ .unknown ∧ (h_k h a).2 ≤ cell.slots.size ∧ cell.slots.size.toInt32 = Int32.ofNat (h_k h a).2 ∧ ∀ j : Nat, j < (h_k h a).2 → cell.slots[j]? = some (.int (h_i h a j))
  | 40 => ∃ r : Nat, cst a = .ref r ∧ r < b ∧ va_O "java/lang/String" r (fun q => b ≤ q) U H ∧ va_OF "java/lang/String" "coder" "B" (.int (h_i h a 1)) r (fun q => b ≤ q) U H ∧ va_OF "java/lang/String" "value" "[B" (mv cst b (.ref (h_r h a 0))) r (fun q => b ≤ q) U H
  | _ => False
def m_stat (cst : Nat → Value) (b : Nat) (U : State) (H : Heap) : Prop := va_Z "java/lang/String" "COMPACT_STRINGS" "Z" (.int 1) (fun q => b ≤ q) U H ∧ va_Z "PastHeaps" "LIMITS" "[I" (cst 1) (fun q => b ≤ q) U H ∧ va_Z "jdk/internal/util/Preconditions" "SIOOBE_FORMATTER" "Ljava/util/function/BiFunction;" (cst 15) (fun q => b ≤ q) U H
def HR (D : va_G) (tA : Nat → ClassId) (cst : Nat → Value) (b : Nat) (U : State) (h : MH) (H : Heap) : Prop :=
  H.size = b + h_n h ∧ (∀ a, 16 ≤ a → a < 16 + h_n h → m_cell D tA cst b h a H) ∧ (∀ a, 16 + h_n h ≤ a → (h_k h a).1 = 0) ∧ (∀ a, a < 16 → m_cst cst b U h a H) ∧ m_stat cst b U H ∧ (h_k h 0).1 = 0
theorem m_cell.congr {D : va_G} {tA : Nat → ClassId} {cst : Nat → Value} {b a : Nat} {h h' : MH} {H H' : Heap} (hk : h_k h' a = h_k h a) (hi : h_i h' a = h_i h a) (hl : h_l h' a = h_l h a) (hr : h_r h' a = h_r h a) (hH : H'[b + (a - 16)]? = H[b + (a - 16)]?) (q : m_cell D tA cst b h a H) : m_cell D tA cst b h' a H' := by
  have e1 : ∀ c k, m_fv cst b h' a c k = m_fv cst b h a c k := fun c k => by unfold m_fv; rw [hi, hl, hr]
  have e2 : ∀ k j, m_av cst b h' a k j = m_av cst b h a k j := fun c k => by unfold m_av; rw [hi, hl, hr]
  rcases q with ⟨q1, q2, q3⟩ | ⟨q1, q2, q3⟩
  · refine Or.inl ⟨by rw [hk]; exact q1, by rw [hk]; exact q2, ?_⟩
    rw [hk]
    exact (q3.kept hH).to (fun k _ => (e1 _ k).symm)
  · refine Or.inr ⟨by rw [hk]; exact q1, ?_, by rw [hk, hi]; exact q3⟩
    rw [hk, hH, q2, show m_av cst b h' a (h_k h a).1 = m_av cst b h a (h_k h a).1 from funext (e2 _)]
theorem m_cst.congr {cst : Nat → Value} {b a : Nat} {U : State} {h h' : MH} {H H' : Heap} (hk : h_k h' a = h_k h a) (hi : h_i h' a = h_i h a) (hr : h_r h' a = h_r h a) (hH : ∀ q, q < b → H'[q]? = H[q]?) (q : m_cst cst b U h a H) : m_cst cst b U h' a H' := by
  unfold m_cst at q ⊢
  rw [hk, hi, hr]
  split at q
  · trivial
  · obtain ⟨r, cell, q1, q2, q3, q4⟩ := q
    exact ⟨r, cell, q1, q2, by rw [hH r q2]; exact q3, q4⟩
  · obtain ⟨r, cell, q1, q2, q3, q4⟩ := q
    exact ⟨r, cell, q1, q2, by rw [hH r q2]; exact q3, q4⟩
  · obtain ⟨r, q1, q2, ⟨cell, g1, g2, g3, g4⟩, ⟨cf, k, i, f, cl, f1, f2, f3, f4, f5, f6⟩, ⟨cf', k', i', f', cl', f1', f2', f3', f4', f5', f6'⟩⟩ := q
    exact ⟨r, q1, q2, ⟨cell, by rw [hH r q2]; exact g1, g2, g3, g4⟩, ⟨cf, k, i, f, cl, f1, f2, by rw [hH r q2]; exact f3, f4, f5, f6⟩, ⟨cf', k', i', f', cl', f1', f2', by rw [hH r q2]; exact f3', f4', f5', f6'⟩⟩
  · exact q
theorem m_stat.kept {cst : Nat → Value} {b : Nat} {U : State} {H H' : Heap} (hH : ∀ q, q < b → H'[q]? = H[q]?) (q : m_stat cst b U H) : m_stat cst b U H' :=
  ⟨q.1.kept (fun a _ h => hH a (Nat.lt_of_not_le h)), q.2.1.kept (fun a _ h => hH a (Nat.lt_of_not_le h)), q.2.2.kept (fun a _ h => hH a (Nat.lt_of_not_le h))⟩
theorem m_cst.moved {cst : Nat → Value} {b a : Nat} {u U : State} {h : MH} {H : Heap} (hvm : u.vm.Alike U.vm) (q : m_cst cst b u h a H) : m_cst cst b U h a H := by
  unfold m_cst at q ⊢
  split at q
  · trivial
  · obtain ⟨r, cell, q1, q2, q3, q4, q5⟩ := q
    exact ⟨r, cell, q1, q2, q3, State.isArrayOf_alike hvm q4, q5⟩
  · obtain ⟨r, cell, q1, q2, q3, q4, q5⟩ := q
    exact ⟨r, cell, q1, q2, q3, State.isArrayOf_alike hvm q4, q5⟩
  · obtain ⟨r, q1, q2, q3, q4, q5⟩ := q
    exact ⟨r, q1, q2, va_O.moved hvm q3, va_OF.moved hvm q4, va_OF.moved hvm q5⟩
  · exact q
theorem HR.moved {D : va_G} {tA : Nat → ClassId} {cst : Nat → Value} {b : Nat} {u U : State} {h : MH} {H : Heap} (hvm : u.vm.Alike U.vm) (q : HR D tA cst b u h H) : HR D tA cst b U h H :=
  ⟨q.1, q.2.1, q.2.2.1, fun a ha => (q.2.2.2.1 a ha).moved hvm, ⟨va_Z.moved hvm q.2.2.2.2.1.1, va_Z.moved hvm q.2.2.2.2.1.2.1, va_Z.moved hvm q.2.2.2.2.1.2.2⟩, q.2.2.2.2.2⟩
-- a cell of the world has changed
theorem HR.upd {D : va_G} {tA : Nat → ClassId} {cst : Nat → Value} {b a : Nat} {U : State} {h h' : MH} {H H' : Heap} (q : HR D tA cst b U h H) (ha : 16 ≤ a) (hn : h_n h' = h_n h) (hk : h_k h' = h_k h) (ho : ∀ x, x ≠ a → h_i h' x = h_i h x ∧ h_l h' x = h_l h x ∧ h_r h' x = h_r h x)
    (hz : H'.size = H.size) (hoH : ∀ x, x ≠ b + (a - 16) → H'[x]? = H[x]?) (hc : m_cell D tA cst b h' a H') : HR D tA cst b U h' H' := by
  obtain ⟨q1, q2, q3, q4, q5, q6⟩ := q
  have hlo : ∀ x, x < b → H'[x]? = H[x]? := fun x hx => hoH x (by omega)
  refine ⟨by rw [hz, hn]; exact q1, fun x h1 h2 => ?_, fun x hx => by rw [hk]; exact q3 x (by rw [← hn]; exact hx), fun x hx => (q4 x hx).congr (by rw [hk]) (ho x (by omega)).1 (ho x (by omega)).2.2 hlo, q5.kept hlo, by rw [hk]; exact q6⟩
  by_cases e : x = a
  · rw [e]; exact hc
  · exact (q2 x h1 (by rw [← hn]; exact h2)).congr (by rw [hk]) (ho x e).1 (ho x e).2.1 (ho x e).2.2 (hoH _ (by omega))
-- cells have come
theorem HR.grow {D : va_G} {tA : Nat → ClassId} {cst : Nat → Value} {b : Nat} {U : State} {h h' : MH} {H H' : Heap} (q : HR D tA cst b U h H) (m : Nat) (hn : h_n h' = h_n h + m)
    (ho : ∀ x, x < 16 + h_n h ∨ 16 + h_n h' ≤ x → h_k h' x = h_k h x) (hv : ∀ x, x < 16 + h_n h → h_i h' x = h_i h x ∧ h_l h' x = h_l h x ∧ h_r h' x = h_r h x)
    (hz : H'.size = H.size + m) (hoH : ∀ x, x < H.size → H'[x]? = H[x]?) (hc : ∀ x, 16 + h_n h ≤ x → x < 16 + h_n h' → m_cell D tA cst b h' x H') : HR D tA cst b U h' H' := by
  obtain ⟨q1, q2, q3, q4, q5, q6⟩ := q
  have hlo : ∀ x, x < b → H'[x]? = H[x]? := fun x hx => hoH x (by omega)
  refine ⟨by omega, fun x h1 h2 => ?_, fun x hx => by rw [ho x (Or.inr hx)]; exact q3 x (by omega), fun x hx => (q4 x hx).congr (ho x (Or.inl (by omega))) (hv x (by omega)).1 (hv x (by omega)).2.2 hlo, q5.kept hlo, by rw [ho 0 (Or.inl (by omega))]; exact q6⟩
  by_cases e : x < 16 + h_n h
  · exact (q2 x h1 e).congr (ho x (Or.inl e)) (hv x e).1 (hv x e).2.1 (hv x e).2.2 (hoH _ (by omega))
  · exact hc x (by omega) h2
-- what is there has its cell
theorem HR.cell {D : va_G} {tA : Nat → ClassId} {cst : Nat → Value} {b a : Nat} {U : State} {h : MH} {H : Heap} (q : HR D tA cst b U h H) (ha : 16 ≤ a) (hk : (h_k h a).1 ≠ 0) : m_cell D tA cst b h a H := by
  rcases Nat.lt_or_ge a (16 + h_n h) with h1 | h1
  · exact q.2.1 a ha h1
  · exact absurd (q.2.2.1 a h1) hk
theorem HR.obj {D : va_G} {tA : Nat → ClassId} {cst : Nat → Value} {b a c : Nat} {U : State} {h : MH} {H : Heap} (q : HR D tA cst b U h H) (hk : (h_k h a).1 = c + 1) (hc : c < 10) : 16 ≤ a ∧ t_OB (b + (a - 16)) (D.1 c) (m_nf c) (D.2 c) H (m_fv cst b h a c) := by
  have ha : 16 ≤ a := by
    rcases Nat.lt_or_ge a 16 with h1 | h1
    · have := q.2.2.2.1 a h1
      unfold m_cst at this
      rw [hk] at this
      match c, hc, this with
      | 0, _, this => exact this.elim
      | 1, _, this => exact this.elim
      | 2, _, this => exact this.elim
      | 3, _, this => exact this.elim
      | 4, _, this => exact this.elim
      | 5, _, this => exact this.elim
      | 6, _, this => exact this.elim
      | 7, _, this => exact this.elim
      | 8, _, this => exact this.elim
      | 9, _, this => exact this.elim
    · exact h1
  refine ⟨ha, ?_⟩
  rcases q.cell ha (by omega) with ⟨q1, q2, q3⟩ | ⟨q1, q2, q3⟩
  · rw [hk] at q3
    exact q3
  · rw [hk] at q1
    match c, hc, q1 with
    | 0, _, q1 => exact absurd q1 (by decide)
    | 1, _, q1 => exact absurd q1 (by decide)
    | 2, _, q1 => exact absurd q1 (by decide)
    | 3, _, q1 => exact absurd q1 (by decide)
    | 4, _, q1 => exact absurd q1 (by decide)
    | 5, _, q1 => exact absurd q1 (by decide)
    | 6, _, q1 => exact absurd q1 (by decide)
    | 7, _, q1 => exact absurd q1 (by decide)
    | 8, _, q1 => exact absurd q1 (by decide)
    | 9, _, q1 => exact absurd q1 (by decide)
theorem HR.arr {D : va_G} {tA : Nat → ClassId} {cst : Nat → Value} {b a : Nat} {U : State} {h : MH} {H : Heap} (q : HR D tA cst b U h H) (ha : 16 ≤ a) (hk : 20 ≤ (h_k h a).1) : m_okk (h_k h a).1 = true ∧ H[b + (a - 16)]? = some (arrV (tA (h_k h a).1) (h_k h a).2 (m_av cst b h a (h_k h a).1)) ∧ ((h_k h a).1 = 21 → ∀ j, fits .byte (.int (h_i h a j)) = true) := by
  rcases q.cell ha (by omega) with ⟨q1, q2, q3⟩ | q
  · omega
  · exact q
-- what the tables say, at any state of the run
def m_nest (w : Cond) : Bool := match w with
  | .fieldLinkNest _ _ _ _ _ _ => true
  | .methodLinkNest _ _ _ _ => true
  | _ => false
abbrev m_tys (tA : Nat → ClassId) : List (ClassId × FieldType) := [(tA 20, .int), (tA 21, .byte), (tA 22, .boolean), (tA 25, .long), (tA 30, .object RX6), (tA 31, .object RX3), (tA 32, .object RX0), (tA 33, .array .int)]
def KS (D : va_G) (tA : Nat → ClassId) (cst : Nat → Value) (U : State) : Prop :=
  va_K D m_cl (m_tys tA) U ∧ (∀ w ∈ lw_tbl, m_nest w = true → va_Nw w U) ∧ va_AO RX6 U ∧ va_AO RX3 U ∧ va_AO RX0 U ∧ (Cond.arrayOver (.array .int)).before #[] U = true ∧ (∀ (k : Nat) (q : String × Nat × String), m_strs[k]? = some q → ∃ r, cst (2 + k) = .ref r ∧ vk_R q.1 q.2.1 q.2.2 r U)
theorem va_Nw.warm {w : Cond} {s U : State} (hn : m_nest w = true) (hW : s.WarmedH U.vm) (h : va_Nw w s) : va_Nw w U := by
  cases w <;> first | exact va_Nw.warmF hW h | exact va_Nw.warmM hW h | exact absurd hn (by simp [m_nest])
theorem KS.warm {D : va_G} {tA : Nat → ClassId} {cst : Nat → Value} {s U : State} (hW : s.WarmedH U.vm) (h : KS D tA cst s) : KS D tA cst U := by
  obtain ⟨h1, h2, h3, h4, h5, h6, h7⟩ := h
  refine ⟨va_K.moved hW.alike h1, fun w hw hn => va_Nw.warm hn hW (h2 w hw hn), va_AO.moved hW.alike h3, va_AO.moved hW.alike h4, va_AO.moved hW.alike h5, over_moved hW.alike h6, fun k q hq => ?_⟩
  obtain ⟨r, g1, g2⟩ := h7 k q hq
  exact ⟨r, g1, g2.warm hW⟩
theorem KS.same {D : va_G} {tA : Nat → ClassId} {cst : Nat → Value} {s U : State} (hv : s.vm = U.vm) (h : KS D tA cst s) : KS D tA cst U := by
  obtain ⟨h1, h2, h3, h4, h5, h6, h7⟩ := h
  have hal : s.vm.Alike U.vm := by rw [hv]; exact Vm.Alike.refl _
  refine ⟨va_K.moved hal h1, fun w hw hn => ?_, va_AO.moved hal h3, va_AO.moved hal h4, va_AO.moved hal h5, over_moved hal h6, fun k q hq => ?_⟩
  · have hon : w.onTables = true := by cases w <;> first | rfl | exact absurd hn (by simp [m_nest])
    exact va_Nw.same hon hv (h2 w hw hn)
  · obtain ⟨r, g1, g2⟩ := h7 k q hq
    exact ⟨r, g1, g2.same hv.symm⟩
def m_tg0 : List Cond := lw_tbl.filter goodWord
