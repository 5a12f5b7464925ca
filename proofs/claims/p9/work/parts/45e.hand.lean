-- BY HAND: steps backwards
def HJ (i pc : Nat) (lv : List (Nat × Value)) (st : List Value) (h : MH) (Q : Option Value → MH → Prop) : Prop := ∃ v h', Rq i pc lv st h (v, h') ∧ Q v h'
section
variable {i pc pc' : Nat} {lv : List (Nat × Value)} {st : List Value} {h : MH} {Q : Option Value → MH → Prop}
theorem HJ.step {lv' : List (Nat × Value)} {st' : List Value} {h' : MH} (e : m_st i pc lv st h = some (.inl (pc', lv', st', h'))) (g : HJ i pc' lv' st' h' Q) : HJ i pc lv st h Q := by
  obtain ⟨v, h2, g1, g2⟩ := g
  exact ⟨v, h2, Rq.step e g1, g2⟩
theorem HJ.ret {v : Option Value} (e : m_st i pc lv st h = some (.inr (.inl (v, h)))) (q : Q v h) : HJ i pc lv st h Q := ⟨v, h, Rq.ret e, q⟩
theorem HJ.call {j : Nat} {as rr : List Value} (e : m_st i pc lv st h = some (.inr (.inr (j, as, rr, pc')))) (hc : m_cat as ≤ m_lc j) (g : HJ j 0 (lv_args 0 as) [] h (fun v h' => HJ i pc' lv (v.toList ++ rr) h' Q)) : HJ i pc lv st h Q := by
  obtain ⟨v, h2, g1, v3, h3, g3, g4⟩ := g
  exact ⟨v3, h3, Rq.call e hc g1 g3, g4⟩
theorem HJ.mono {Q' : Option Value → MH → Prop} (g : HJ i pc lv st h Q) (hq : ∀ v h', Q v h' → Q' v h') : HJ i pc lv st h Q' := by
  obtain ⟨v, h2, g1, g2⟩ := g
  exact ⟨v, h2, g1, hq v h2 g2⟩
theorem m_stx {ins : Instr} {len : Nat} (a : m_at i pc = some (ins, len)) (hl : m_ln ins = len ∨ m_ln ins = 0) : m_st i pc lv st h = m_ex i pc ins lv st h := by
  unfold m_st
  rw [a]
  dsimp only
  rw [if_pos hl]
-- the step itself, told; pc' the next place
theorem HJ.ex {ins : Instr} {len : Nat} {lv' : List (Nat × Value)} {st' : List Value} {h' : MH} (a : m_at i pc = some (ins, len)) (hl : m_ln ins = len ∨ m_ln ins = 0) (e : m_ex i pc ins lv st h = some (.inl (pc', lv', st', h'))) (g : HJ i pc' lv' st' h' Q) : HJ i pc lv st h Q := HJ.step ((m_stx a hl).trans e) g
-- locals
theorem lk_s1 (k : Nat) (v : Value) : m_lk (m_s1 lv k v) k = some v := by
  unfold m_s1
  rw [m_lkc, if_pos rfl]
theorem lk_k1 {k q : Nat} {v w : Value} (e : m_lk lv q = some w) (hq : q ≠ k) (hc : w.category = 1 ∨ q + 1 ≠ k) : m_lk (m_s1 lv k v) q = some w := by
  unfold m_s1
  rw [m_lkc, if_neg (fun z => hq z.symm)]
  refine m_lkf ?_ e
  dsimp only
  rcases hc with hc | hc
  · rw [hc]
    simp [hq]
  · simp [hq, hc]
theorem lk_s2 (k : Nat) (v : Value) : m_lk (m_s2 lv k v) k = some v := by
  unfold m_s2
  rw [m_lkc, if_pos rfl]
theorem lk_k2 {k q : Nat} {v w : Value} (e : m_lk lv q = some w) (hq : q ≠ k) (hq2 : q ≠ k + 1) (hc : w.category = 1 ∨ q + 1 ≠ k) : m_lk (m_s2 lv k v) q = some w := by
  unfold m_s2
  rw [m_lkc, if_neg (fun z => hq z.symm)]
  refine m_lkf ?_ e
  dsimp only
  rcases hc with hc | hc
  · rw [hc]
    simp [hq, hq2]
  · simp [hq, hq2, hc]
-- instructions
theorem hI_il {k : Fin 4} {x : Int32} (a : m_at i pc = some (.iload_n k, 1)) (e : m_lk lv k = some (.int x)) (hp : pc + 1 = pc') (g : HJ i pc' lv (.int x :: st) h Q) : HJ i pc lv st h Q := by
  subst hp
  exact HJ.ex a (Or.inl rfl) (by show e_ild k (pc + 1) lv st h = _; unfold e_ild; rw [e]; rfl) g
theorem hI_il2 {k : Nat} {x : Int32} (a : m_at i pc = some (.iload k, 2)) (e : m_lk lv k = some (.int x)) (hp : pc + 2 = pc') (g : HJ i pc' lv (.int x :: st) h Q) : HJ i pc lv st h Q := by
  subst hp
  exact HJ.ex a (Or.inl rfl) (by show e_ild k (pc + 2) lv st h = _; unfold e_ild; rw [e]; rfl) g
theorem hI_al {k : Fin 4} {x : Nat} (a : m_at i pc = some (.aload_n k, 1)) (e : m_lk lv k = some (.ref x)) (hp : pc + 1 = pc') (g : HJ i pc' lv (.ref x :: st) h Q) : HJ i pc lv st h Q := by
  subst hp
  exact HJ.ex a (Or.inl rfl) (by show e_ald k (pc + 1) lv st h = _; unfold e_ald; rw [e]; rfl) g
theorem hI_al2 {k : Nat} {x : Nat} (a : m_at i pc = some (.aload k, 2)) (e : m_lk lv k = some (.ref x)) (hp : pc + 2 = pc') (g : HJ i pc' lv (.ref x :: st) h Q) : HJ i pc lv st h Q := by
  subst hp
  exact HJ.ex a (Or.inl rfl) (by show e_ald k (pc + 2) lv st h = _; unfold e_ald; rw [e]; rfl) g
theorem hI_ll {k : Fin 4} {x : Int64} (a : m_at i pc = some (.lload_n k, 1)) (e : m_lk lv k = some (.long x)) (hp : pc + 1 = pc') (g : HJ i pc' lv (.long x :: st) h Q) : HJ i pc lv st h Q := by
  subst hp
  exact HJ.ex a (Or.inl rfl) (by show e_lld k (pc + 1) lv st h = _; unfold e_lld; rw [e]; rfl) g
theorem hI_ll2 {k : Nat} {x : Int64} (a : m_at i pc = some (.lload k, 2)) (e : m_lk lv k = some (.long x)) (hp : pc + 2 = pc') (g : HJ i pc' lv (.long x :: st) h Q) : HJ i pc lv st h Q := by
  subst hp
  exact HJ.ex a (Or.inl rfl) (by show e_lld k (pc + 2) lv st h = _; unfold e_lld; rw [e]; rfl) g
theorem hI_ic {n : Int} (a : m_at i pc = some (.iconst n, 1)) (hp : pc + 1 = pc') (g : HJ i pc' lv (.int (Int32.ofInt n) :: st) h Q) : HJ i pc lv st h Q := by
  subst hp
  exact HJ.ex a (Or.inl rfl) rfl g
theorem hI_bp {n : Int} (a : m_at i pc = some (.bipush n, 2)) (hp : pc + 2 = pc') (g : HJ i pc' lv (.int (Int8.ofInt n).toInt32 :: st) h Q) : HJ i pc lv st h Q := by
  subst hp
  exact HJ.ex a (Or.inl rfl) rfl g
theorem hI_sp {n : Int} (a : m_at i pc = some (.sipush n, 3)) (hp : pc + 3 = pc') (g : HJ i pc' lv (.int (Int16.ofInt n).toInt32 :: st) h Q) : HJ i pc lv st h Q := by
  subst hp
  exact HJ.ex a (Or.inl rfl) rfl g
theorem hI_lc {n : Fin 2} (a : m_at i pc = some (.lconst n, 1)) (hp : pc + 1 = pc') (g : HJ i pc' lv (.long (Int64.ofNat n.val) :: st) h Q) : HJ i pc lv st h Q := by
  subst hp
  exact HJ.ex a (Or.inl rfl) rfl g
theorem hI_nul (a : m_at i pc = some (.aconst_null, 1)) (hp : pc + 1 = pc') (g : HJ i pc' lv (.ref 0 :: st) h Q) : HJ i pc lv st h Q := by
  subst hp
  exact HJ.ex a (Or.inl rfl) rfl g
theorem hI_is {k : Fin 4} {x : Int32} (a : m_at i pc = some (.istore_n k, 1)) (hk : k.val < m_lc i) (hp : pc + 1 = pc') (g : HJ i pc' (m_s1 lv k.val (.int x)) st h Q) : HJ i pc lv (.int x :: st) h Q := by
  subst hp
  exact HJ.ex a (Or.inl rfl) (by exact if_pos hk) g
theorem hI_is2 {k : Nat} {x : Int32} (a : m_at i pc = some (.istore k, 2)) (hk : k < m_lc i) (hp : pc + 2 = pc') (g : HJ i pc' (m_s1 lv k (.int x)) st h Q) : HJ i pc lv (.int x :: st) h Q := by
  subst hp
  exact HJ.ex a (Or.inl rfl) (by exact if_pos hk) g
theorem hI_as {k : Fin 4} {x : Nat} (a : m_at i pc = some (.astore_n k, 1)) (hk : k.val < m_lc i) (hp : pc + 1 = pc') (g : HJ i pc' (m_s1 lv k.val (.ref x)) st h Q) : HJ i pc lv (.ref x :: st) h Q := by
  subst hp
  exact HJ.ex a (Or.inl rfl) (by exact if_pos hk) g
theorem hI_as2 {k x : Nat} (a : m_at i pc = some (.astore k, 2)) (hk : k < m_lc i) (hp : pc + 2 = pc') (g : HJ i pc' (m_s1 lv k (.ref x)) st h Q) : HJ i pc lv (.ref x :: st) h Q := by
  subst hp
  exact HJ.ex a (Or.inl rfl) (by exact if_pos hk) g
theorem hI_inc {k : Nat} {z : Int} {x : Int32} (a : m_at i pc = some (.iinc k z, 3)) (e : m_lk lv k = some (.int x)) (hk : k < m_lc i) (hp : pc + 3 = pc') (g : HJ i pc' (m_s1 lv k (.int (x + Int32.ofInt z))) st h Q) : HJ i pc lv st h Q := by
  subst hp
  exact HJ.ex a (Or.inl rfl) (by show e_inc (m_lc i) k z pc lv st h = _; unfold e_inc; rw [e]; dsimp only; rw [if_pos hk]; rfl) g
theorem hI_add {x y : Int32} (a : m_at i pc = some (.iadd, 1)) (hp : pc + 1 = pc') (g : HJ i pc' lv (.int (x + y) :: st) h Q) : HJ i pc lv (.int y :: .int x :: st) h Q := by
  subst hp
  exact HJ.ex a (Or.inl rfl) rfl g
theorem hI_sub {x y : Int32} (a : m_at i pc = some (.isub, 1)) (hp : pc + 1 = pc') (g : HJ i pc' lv (.int (x - y) :: st) h Q) : HJ i pc lv (.int y :: .int x :: st) h Q := by
  subst hp
  exact HJ.ex a (Or.inl rfl) rfl g
theorem hI_mul {x y : Int32} (a : m_at i pc = some (.imul, 1)) (hp : pc + 1 = pc') (g : HJ i pc' lv (.int (x * y) :: st) h Q) : HJ i pc lv (.int y :: .int x :: st) h Q := by
  subst hp
  exact HJ.ex a (Or.inl rfl) rfl g
theorem hI_i2b {x : Int32} (a : m_at i pc = some (.i2b, 1)) (hp : pc + 1 = pc') (g : HJ i pc' lv (.int x.toInt8.toInt32 :: st) h Q) : HJ i pc lv (.int x :: st) h Q := by
  subst hp
  exact HJ.ex a (Or.inl rfl) rfl g
theorem hI_dup {v : Value} (a : m_at i pc = some (.dup, 1)) (hv : v.category = 1) (hp : pc + 1 = pc') (g : HJ i pc' lv (v :: v :: st) h Q) : HJ i pc lv (v :: st) h Q := by
  subst hp
  exact HJ.ex a (Or.inl rfl) (by show (if v.category = 1 then _ else none) = _; rw [if_pos hv]; rfl) g
theorem hI_pop {v : Value} (a : m_at i pc = some (.pop, 1)) (hv : v.category = 1) (hp : pc + 1 = pc') (g : HJ i pc' lv st h Q) : HJ i pc lv (v :: st) h Q := by
  subst hp
  exact HJ.ex a (Or.inl rfl) (by show (if v.category = 1 then _ else none) = _; rw [if_pos hv]; rfl) g
theorem hI_go {off : Int} (a : m_at i pc = some (.goto off, 3)) (hp : (pc : Int) + off = (pc' : Int)) (g : HJ i pc' lv st h Q) : HJ i pc lv st h Q := by
  refine HJ.ex (pc' := pc') a (Or.inl rfl) ?_ g
  show m_tg pc off lv st h = _
  unfold m_tg
  rw [hp, if_pos (Int.natCast_nonneg pc'), Int.toNat_natCast]
-- what a comparison says of the numbers
def cmpZ (c : ClassFile.Cond) (x y : Int) : Prop := match c with
  | .eq => x = y
  | .ne => x ≠ y
  | .lt => x < y
  | .ge => y ≤ x
  | .gt => y < x
  | .le => x ≤ y
theorem m_cmpZ (c : ClassFile.Cond) (x y : Int32) : m_cmp c x y = true ↔ cmpZ c x.toInt y.toInt := by
  cases c with
  | eq => exact decide_eq_true_iff.trans ⟨fun e => by rw [e]; rfl, fun e => Int32.toInt_inj.mp e⟩
  | ne =>
    show (!decide (x = y)) = true ↔ x.toInt ≠ y.toInt
    rw [Bool.not_eq_true', decide_eq_false_iff_not]
    exact ⟨fun e z => e (Int32.toInt_inj.mp z), fun e z => e (by rw [z])⟩
  | lt => exact decide_eq_true_iff.trans Int32.lt_iff_toInt_lt
  | ge => exact decide_eq_true_iff.trans Int32.le_iff_toInt_le
  | gt => exact decide_eq_true_iff.trans Int32.lt_iff_toInt_lt
  | le => exact decide_eq_true_iff.trans Int32.le_iff_toInt_le
theorem hI_cmp {c : ClassFile.Cond} {off : Int} {x y : Int32} {t : Nat} (a : m_at i pc = some (.if_icmp c off, 3)) (ht : (pc : Int) + off = (t : Int)) (hp : pc + 3 = pc') (g1 : cmpZ c x.toInt y.toInt → HJ i t lv st h Q) (g2 : ¬ cmpZ c x.toInt y.toInt → HJ i pc' lv st h Q) : HJ i pc lv (.int y :: .int x :: st) h Q := by
  subst hp
  have e0 : ∀ b, m_br b pc off lv st h = (match b with
    | true => some (.inl (t, lv, st, h))
    | false => some (.inl (pc + 3, lv, st, h))) := fun b => by
    unfold m_br
    rw [ht, if_pos (Int.natCast_nonneg t), Int.toNat_natCast]
    cases b <;> rfl
  by_cases hb : m_cmp c x y = true
  · refine HJ.ex (pc' := t) a (Or.inl rfl) ?_ (g1 ((m_cmpZ c x y).mp hb))
    show m_br (m_cmp c x y) pc off lv st h = _
    rw [e0, hb]
  · refine HJ.ex (pc' := pc + 3) a (Or.inl rfl) ?_ (g2 (fun z => hb ((m_cmpZ c x y).mpr z)))
    show m_br (m_cmp c x y) pc off lv st h = _
    have hb2 : m_cmp c x y = false := by
      cases h9 : m_cmp c x y with
      | true => exact absurd h9 hb
      | false => rfl
    rw [e0, hb2]
theorem hI_if {c : ClassFile.Cond} {off : Int} {x : Int32} {t : Nat} (a : m_at i pc = some (.ifCond c off, 3)) (ht : (pc : Int) + off = (t : Int)) (hp : pc + 3 = pc') (g1 : cmpZ c x.toInt 0 → HJ i t lv st h Q) (g2 : ¬ cmpZ c x.toInt 0 → HJ i pc' lv st h Q) : HJ i pc lv (.int x :: st) h Q := by
  subst hp
  have e0 : ∀ b, m_br b pc off lv st h = (match b with
    | true => some (.inl (t, lv, st, h))
    | false => some (.inl (pc + 3, lv, st, h))) := fun b => by
    unfold m_br
    rw [ht, if_pos (Int.natCast_nonneg t), Int.toNat_natCast]
    cases b <;> rfl
  by_cases hb : m_cmp c x 0 = true
  · refine HJ.ex (pc' := t) a (Or.inl rfl) ?_ (g1 ((m_cmpZ c x 0).mp hb))
    show m_br (m_cmp c x 0) pc off lv st h = _
    rw [e0, hb]
  · refine HJ.ex (pc' := pc + 3) a (Or.inl rfl) ?_ (g2 (fun z => hb ((m_cmpZ c x 0).mpr z)))
    show m_br (m_cmp c x 0) pc off lv st h = _
    have hb2 : m_cmp c x 0 = false := by
      cases h9 : m_cmp c x 0 with
      | true => exact absurd h9 hb
      | false => rfl
    rw [e0, hb2]
-- fields
theorem hI_gi {idx nest c k o : Nat} (a : m_at i pc = some (.getfield idx, 3)) (hf : m_fl i idx = some (nest, c, k)) (ht : (m_ty c k).1 = 0) (hk : (h_k h o).1 = c + 1) (hp : pc + 3 = pc') (g : HJ i pc' lv (.int (h_i h o k) :: st) h Q) : HJ i pc lv (.ref o :: st) h Q := by
  subst hp
  refine HJ.ex a (Or.inl rfl) ?_ g
  show e_get i idx pc lv _ h = _
  unfold e_get
  rw [hf]
  dsimp only
  rw [if_pos hk, ht]
  rfl
theorem hI_gr {idx nest c k o : Nat} (a : m_at i pc = some (.getfield idx, 3)) (hf : m_fl i idx = some (nest, c, k)) (ht : (m_ty c k).1 = 2) (hk : (h_k h o).1 = c + 1) (hp : pc + 3 = pc') (g : HJ i pc' lv (.ref (h_r h o k) :: st) h Q) : HJ i pc lv (.ref o :: st) h Q := by
  subst hp
  refine HJ.ex a (Or.inl rfl) ?_ g
  show e_get i idx pc lv _ h = _
  unfold e_get
  rw [hf]
  dsimp only
  rw [if_pos hk, ht]
  rfl
theorem hI_pi {idx nest c k o : Nat} {x : Int32} (a : m_at i pc = some (.putfield idx, 3)) (hf : m_fl i idx = some (nest, c, k)) (hc : c < 10 ∧ k < m_nf c ∧ m_ty c k = (0, false)) (hk : (h_k h o).1 = c + 1) (hp : pc + 3 = pc') (g : HJ i pc' lv st (h_si h o k x) Q) : HJ i pc lv (.int x :: .ref o :: st) h Q := by
  subst hp
  refine HJ.ex a (Or.inl rfl) ?_ g
  show e_put i idx pc lv _ h = _
  unfold e_put
  rw [hf]
  dsimp only
  rw [if_pos ⟨hk, hc.1, hc.2.1, hc.2.2⟩]
  rfl
theorem hI_pr {idx nest c k o x : Nat} (a : m_at i pc = some (.putfield idx, 3)) (hf : m_fl i idx = some (nest, c, k)) (hc : c < 10 ∧ k < m_nf c ∧ (m_ty c k).1 = 2 ∧ ((m_ty c k).2 = true → nest = 0 ∧ m_kind i = 2 ∧ m_ownL.getD i 0 = m_ow i ∧ m_cnm c = (m_m i).2.1.cls)) (hk : (h_k h o).1 = c + 1) (hp : pc + 3 = pc') (g : HJ i pc' lv st (h_sr h o k x) Q) : HJ i pc lv (.ref x :: .ref o :: st) h Q := by
  subst hp
  refine HJ.ex a (Or.inl rfl) ?_ g
  show e_put i idx pc lv _ h = _
  unfold e_put
  rw [hf]
  dsimp only
  rw [if_pos ⟨hk, hc.1, hc.2.1, hc.2.2.1, hc.2.2.2⟩]
  rfl
-- rows: a place by its number
theorem m_inZ {j : Int32} {n : Nat} (h0 : 0 ≤ j.toInt) (h1 : j.toInt < n) : m_in j n = true := by
  unfold m_in
  rw [Bool.and_eq_true]
  refine ⟨decide_eq_true (fun z => ?_), decide_eq_true ?_⟩
  · have := Int32.lt_iff_toInt_lt.mp z
    have e0 : (0 : Int32).toInt = 0 := by decide
    omega
  · show j.toInt.toNat < n
    omega
theorem hI_ia {j : Int32} {o : Nat} (a : m_at i pc = some (.iaload, 1)) (hk : (h_k h o).1 = 20) (h0 : 0 ≤ j.toInt) (h1 : j.toInt < (h_k h o).2) (hp : pc + 1 = pc') (g : HJ i pc' lv (.int (h_i h o j.toInt.toNat) :: st) h Q) : HJ i pc lv (.int j :: .ref o :: st) h Q := by
  subst hp
  refine HJ.ex a (Or.inl rfl) ?_ g
  show (if ((h_k h o).1 = 20 ∨ (h_k h o).1 = 20) ∧ m_in j (h_k h o).2 = true then _ else none) = _
  rw [if_pos ⟨Or.inl hk, m_inZ h0 h1⟩]
  rfl
theorem hI_ba {j : Int32} {o : Nat} (a : m_at i pc = some (.baload, 1)) (hk : (h_k h o).1 = 21 ∨ (h_k h o).1 = 22) (h0 : 0 ≤ j.toInt) (h1 : j.toInt < (h_k h o).2) (hp : pc + 1 = pc') (g : HJ i pc' lv (.int (h_i h o j.toInt.toNat) :: st) h Q) : HJ i pc lv (.int j :: .ref o :: st) h Q := by
  subst hp
  refine HJ.ex a (Or.inl rfl) ?_ g
  show (if ((h_k h o).1 = 21 ∨ (h_k h o).1 = 22) ∧ m_in j (h_k h o).2 = true then _ else none) = _
  rw [if_pos ⟨hk, m_inZ h0 h1⟩]
  rfl
theorem hI_is_ {j x : Int32} {o : Nat} (a : m_at i pc = some (.iastore, 1)) (ho : 16 ≤ o) (hk : (h_k h o).1 = 20) (h0 : 0 ≤ j.toInt) (h1 : j.toInt < (h_k h o).2) (hp : pc + 1 = pc') (g : HJ i pc' lv st (h_si h o j.toInt.toNat x) Q) : HJ i pc lv (.int x :: .int j :: .ref o :: st) h Q := by
  subst hp
  refine HJ.ex a (Or.inl rfl) ?_ g
  show (if 16 ≤ o ∧ (h_k h o).1 = 20 ∧ m_in j (h_k h o).2 = true then _ else none) = _
  rw [if_pos ⟨ho, hk, m_inZ h0 h1⟩]
  rfl
theorem hI_bs_ {j x : Int32} {o : Nat} (a : m_at i pc = some (.bastore, 1)) (ho : 16 ≤ o) (hk : (h_k h o).1 = 21) (h0 : 0 ≤ j.toInt) (h1 : j.toInt < (h_k h o).2) (hp : pc + 1 = pc') (g : HJ i pc' lv st (h_si h o j.toInt.toNat x.toInt8.toInt32) Q) : HJ i pc lv (.int x :: .int j :: .ref o :: st) h Q := by
  subst hp
  refine HJ.ex a (Or.inl rfl) ?_ g
  show (if 16 ≤ o ∧ (h_k h o).1 = 21 ∧ m_in j (h_k h o).2 = true then _ else _) = _
  rw [if_pos ⟨ho, hk, m_inZ h0 h1⟩]
  rfl
theorem hI_len {o : Nat} (a : m_at i pc = some (.arraylength, 1)) (hk : 20 ≤ (h_k h o).1 ∧ (h_k h o).1 < 34) (hp : pc + 1 = pc') (g : HJ i pc' lv (.int (Int32.ofNat (h_k h o).2) :: st) h Q) : HJ i pc lv (.ref o :: st) h Q := by
  subst hp
  refine HJ.ex a (Or.inl rfl) ?_ g
  show (if 20 ≤ (h_k h o).1 ∧ (h_k h o).1 < 34 then _ else none) = _
  rw [if_pos hk]
  rfl
-- ends
theorem hI_ri {x : Int32} (a : m_at i pc = some (.ireturn, 1)) (hr : m_rok (m_rt i) x = true) (q : Q (some (.int x)) h) : HJ i pc lv [.int x] h Q := by
  refine HJ.ret ((m_stx a (Or.inl rfl)).trans ?_) q
  show (if m_rok (m_rt i) x = true then (some (.inr (.inl (some (.int x), h))) : Option MA) else none) = _
  rw [if_pos hr]
theorem hI_rv (a : m_at i pc = some (.return_, 1)) (hr : m_rt i = none) (q : Q none h) : HJ i pc lv [] h Q := by
  refine HJ.ret ((m_stx a (Or.inl rfl)).trans ?_) q
  show (if m_rt i = none then (some (.inr (.inl (none, h))) : Option MA) else none) = _
  rw [if_pos hr]
theorem hI_rl {x : Int64} (a : m_at i pc = some (.lreturn, 1)) (hr : m_rt i = some .long) (q : Q (some (.long x)) h) : HJ i pc lv [.long x] h Q := by
  refine HJ.ret ((m_stx a (Or.inl rfl)).trans ?_) q
  show (if m_rt i = some .long then (some (.inr (.inl (some (.long x), h))) : Option MA) else none) = _
  rw [if_pos hr]
theorem hI_ra {x : Nat} (a : m_at i pc = some (.areturn, 1)) (hr : m_rr (m_rt i) = true) (q : Q (some (.ref x)) h) : HJ i pc lv [.ref x] h Q := by
  refine HJ.ret ((m_stx a (Or.inl rfl)).trans ?_) q
  show (if m_rr (m_rt i) = true then (some (.inr (.inl (some (.ref x), h))) : Option MA) else none) = _
  rw [if_pos hr]
end
