-- COPIES OF ROWS, CALLS
theorem m_kobjT : ∀ l ∈ m_mlk, ∀ e ∈ l, e.2.2 = 900 ∨ e.2.2 = 901 → e.2.1 = 0 := by decide +kernel
theorem m_kobjn {i idx nest j : Nat} {o : String} (ho : m_own[m_ow i]? = some o) (h : m_ml i idx = some (nest, j)) : j = 900 ∨ j = 901 → nest = 0 := by
  intro hj
  have h1 := m_lk_mem h
  cases hl : m_mlk[m_ow i]? with
  | none =>
    rw [List.getD_eq_getElem?_getD, hl] at h1
    cases h1
  | some l =>
    rw [List.getD_eq_getElem?_getD, hl] at h1
    exact m_kobjT l (List.mem_of_getElem? hl) _ h1 hj
section SIMC
variable {p : Program} {l : Launch} {e : Env} {R : Room} {s : State} {m : MethodId} {args : Array Value} {below : List Frame} {meth : Method} {c : Code} {Q : State → Prop} {i : Nat} {D : va_G} {tA : Nat → ClassId} {cst : Nat → Value} {b : Nat}
variable {H : Heap} {locs : List Loc} {cells slots : Nat} {pc : Nat} {ls : Array Slot} {lv : List (Nat × Value)} {st : List Value} {h : MH} {S : MS}
theorem z_nn {z : Int32} (hz : ¬ z < 0) : z.toInt = (z.toNatClampNeg : Int) := by
  have hz0 : (0 : Int) ≤ z.toInt := by
    have := Int32.not_lt.mp hz
    simpa using Int32.le_iff_toInt_le.mp this
  show z.toInt = ((z.toInt.toNat : Nat) : Int)
  omega
-- a copy of whole numbers from a row to a row of the same kind
theorem z_cpW (C : SC p s m args meth c R i D tA cst b) (hls : ls.size = m_lc i) {idx a0 a1 n0 n1 : Nat} {f g : Nat → Int32} {c0 : ClassId} {ty : FieldType} (h0 : H[a0]? = some (vp_cell c0 (n0, .inl f))) (h1 : H[a1]? = some (vp_cell c0 (n1, .inl g))) (hA : ArrOfT s c0 ty) (hprim : refKind ty = false) {sp dp n : Int32} {rest : List Value} (g1 : ¬ sp < 0) (g2 : ¬ dp < 0) (g3 : ¬ n < 0) (g4 : sp.toNatClampNeg + n.toNatClampNeg ≤ n0) (g5 : dp.toNatClampNeg + n.toNatClampNeg ≤ n1) (hfit : ∀ k, k < n.toNatClampNeg → fits ty (.int (f (sp.toNatClampNeg + k))) = true)
    (hframes : 1 ≤ R.frames) (hlocals : (rest.map fun v => v.category).sum + 18 ≤ R.locals) (hlink : (Cond.methodLink (m_m i).2.1.cls idx arraycopyName).before args s = true) (hd : decode (m_m i).2.2.1 pc = .ok (.invokestatic idx, 3))
    (kk : ∀ (H1 : Heap) (L : List Loc), H1[a1]? = some (vp_cell c0 (n1, .inl (va_cpy f g sp.toNatClampNeg dp.toNatClampNeg n.toNatClampNeg))) → H1.size = H.size → (∀ q, q ≠ a1 → H1[q]? = H[q]?) → (∀ q ∈ L, q.base = a1) → W p l e R s m args below meth c H1 (locs ++ L) cells slots Q (F0 m (pc + 3) ls rest)) : W p l e R s m args below meth c H locs cells slots Q (F0 m pc ls (.int n :: .int dp :: .ref a1 :: .int sp :: .ref a0 :: rest)) := by
  obtain ⟨hx, hb, hml, hown, hts, hlocks, hini, hfr, hlo9, hks, hc, hr⟩ := C
  intro T hT X
  obtain ⟨-, k0, hk0, cm0, hkk0⟩ := hA n0 (fun j => .int (f j))
  obtain ⟨-, k1, hk1, cm1, hkk1⟩ := hA n1 (fun j => .int (g j))
  obtain ⟨vm', X', step⟩ := X.arraycopy hx hown hlink (hts _ (m_tgI (m_karr _ (List.mem_of_getElem? (i := 8) rfl)) rfl)) (hts _ (m_tgI (m_karr _ (List.mem_of_getElem? (i := 9) rfl)) rfl)) (hts _ (m_tgI (m_karr _ (List.mem_of_getElem? (i := 10) rfl)) rfl)) (src := a0) (dst := a1) (cs := vp_cell c0 (n0, .inl f)) (cd := vp_cell c0 (n1, .inl g)) (srcPos := sp) (destPos := dp) (n := n) (by rw [hT]; exact h0) (by rw [hT]; exact h1)
    (fun _ h => by cases h) (fun _ h => by cases h) (fun h => by cases h) (fun h => by cases h) hk0 hk1 hkk0 hkk1 (by simp [hprim]) g1 g2 g3
    (by rw [z_nn g1, z_nn g3]; show ¬ _ > ((arrV c0 n0 (fun j => .int (f j))).slots.size : Int); rw [arrV_size]; omega)
    (by rw [z_nn g2, z_nn g3]; show ¬ _ > ((arrV c0 n1 (fun j => .int (g j))).slots.size : Int); rw [arrV_size]; omega)
    (fun vm₁ _ k hk => by
      have e9 : (vp_cell c0 (n0, .inl f)).slots.getD (sp.toNatClampNeg + k) .null = .int (f (sp.toNatClampNeg + k)) := by
        show (arrV c0 n0 (fun j => .int (f j))).slots.getD _ _ = _
        rw [Array.getD_eq_getD_getElem?, arrV_read _ _ (by omega)]
        rfl
      refine ⟨?_, ?_⟩
      · rw [e9]
        exact hfit k hk
      · rw [e9]
        exact trivial)
    (g := F0 m pc ls (.int n :: .int dp :: .ref a1 :: .int sp :: .ref a0 :: rest)) rfl (by rw [hml]; exact hls) (rest := rest) rfl (by rw [hb]; exact hd) hframes (by have hz9 : nativeFrameWords "java/lang/System" "arraycopy" 5 = 7 := (by decide); show 2 * 0 + _ + _ ≤ _; omega)
  have e1 : copied (vp_cell c0 (n0, .inl f)) (vp_cell c0 (n1, .inl g)) sp dp n = vp_cell c0 (n1, .inl (va_cpy f g sp.toNatClampNeg dp.toNatClampNeg n.toNatClampNeg)) := va_copied (fun z => .int z) c0 c0 f g g4
  rw [e1] at X' step
  have hl : a1 < H.size := (Array.getElem?_eq_some_iff.mp h1).1
  have hheap : ((T.setVm vm').setCell a1 (vp_cell c0 (n1, .inl (va_cpy f g sp.toNatClampNeg dp.toNatClampNeg n.toNatClampNeg)))).heap = H.setIfInBounds a1 (vp_cell c0 (n1, .inl (va_cpy f g sp.toNatClampNeg dp.toNatClampNeg n.toNatClampNeg))) := by rw [← hT]; rfl
  obtain ⟨t, b1, b2⟩ := kk _ _ (show (H.setIfInBounds a1 _)[a1]? = some _ by simp [Array.getElem?_setIfInBounds, hl]) (by simp) (fun q hq => by simp [Array.getElem?_setIfInBounds, Ne.symm hq]) (fun q hq => by
    obtain ⟨z, -, hz⟩ := List.mem_map.mp hq
    rw [← hz]) _ hheap X'
  exact ⟨t, step t b1, b2⟩
theorem z_cpWL (C : SC p s m args meth c R i D tA cst b) (hls : ls.size = m_lc i) {idx a0 a1 n0 n1 : Nat} {f g : Nat → Int64} {c0 : ClassId} (h0 : H[a0]? = some (vp_cell c0 (n0, .inr (.inl f)))) (h1 : H[a1]? = some (vp_cell c0 (n1, .inr (.inl g)))) (hA : ArrOfT s c0 .long) {sp dp n : Int32} {rest : List Value} (g1 : ¬ sp < 0) (g2 : ¬ dp < 0) (g3 : ¬ n < 0) (g4 : sp.toNatClampNeg + n.toNatClampNeg ≤ n0) (g5 : dp.toNatClampNeg + n.toNatClampNeg ≤ n1)
    (hframes : 1 ≤ R.frames) (hlocals : (rest.map fun v => v.category).sum + 18 ≤ R.locals) (hlink : (Cond.methodLink (m_m i).2.1.cls idx arraycopyName).before args s = true) (hd : decode (m_m i).2.2.1 pc = .ok (.invokestatic idx, 3))
    (kk : ∀ (H1 : Heap) (L : List Loc), H1[a1]? = some (vp_cell c0 (n1, .inr (.inl (va_cpy f g sp.toNatClampNeg dp.toNatClampNeg n.toNatClampNeg)))) → H1.size = H.size → (∀ q, q ≠ a1 → H1[q]? = H[q]?) → (∀ q ∈ L, q.base = a1) → W p l e R s m args below meth c H1 (locs ++ L) cells slots Q (F0 m (pc + 3) ls rest)) : W p l e R s m args below meth c H locs cells slots Q (F0 m pc ls (.int n :: .int dp :: .ref a1 :: .int sp :: .ref a0 :: rest)) := by
  obtain ⟨hx, hb, hml, hown, hts, hlocks, hini, hfr, hlo9, hks, hc, hr⟩ := C
  intro T hT X
  obtain ⟨-, k0, hk0, cm0, hkk0⟩ := hA n0 (fun j => .long (f j))
  obtain ⟨-, k1, hk1, cm1, hkk1⟩ := hA n1 (fun j => .long (g j))
  obtain ⟨vm', X', step⟩ := X.arraycopy hx hown hlink (hts _ (m_tgI (m_karr _ (List.mem_of_getElem? (i := 8) rfl)) rfl)) (hts _ (m_tgI (m_karr _ (List.mem_of_getElem? (i := 9) rfl)) rfl)) (hts _ (m_tgI (m_karr _ (List.mem_of_getElem? (i := 10) rfl)) rfl)) (src := a0) (dst := a1) (cs := vp_cell c0 (n0, .inr (.inl f))) (cd := vp_cell c0 (n1, .inr (.inl g))) (srcPos := sp) (destPos := dp) (n := n) (by rw [hT]; exact h0) (by rw [hT]; exact h1)
    (fun _ h => by cases h) (fun _ h => by cases h) (fun h => by cases h) (fun h => by cases h) hk0 hk1 hkk0 hkk1 (by simp [refKind]) g1 g2 g3
    (by rw [z_nn g1, z_nn g3]; show ¬ _ > ((arrV c0 n0 (fun j => .long (f j))).slots.size : Int); rw [arrV_size]; omega)
    (by rw [z_nn g2, z_nn g3]; show ¬ _ > ((arrV c0 n1 (fun j => .long (g j))).slots.size : Int); rw [arrV_size]; omega)
    (fun vm₁ _ k hk => by
      have e9 : (vp_cell c0 (n0, .inr (.inl f))).slots.getD (sp.toNatClampNeg + k) .null = .long (f (sp.toNatClampNeg + k)) := by
        show (arrV c0 n0 (fun j => .long (f j))).slots.getD _ _ = _
        rw [Array.getD_eq_getD_getElem?, arrV_read _ _ (by omega)]
        rfl
      refine ⟨?_, ?_⟩
      · rw [e9]
        rfl
      · rw [e9]
        exact trivial)
    (g := F0 m pc ls (.int n :: .int dp :: .ref a1 :: .int sp :: .ref a0 :: rest)) rfl (by rw [hml]; exact hls) (rest := rest) rfl (by rw [hb]; exact hd) hframes (by have hz9 : nativeFrameWords "java/lang/System" "arraycopy" 5 = 7 := (by decide); show 2 * 0 + _ + _ ≤ _; omega)
  have e1 : copied (vp_cell c0 (n0, .inr (.inl f))) (vp_cell c0 (n1, .inr (.inl g))) sp dp n = vp_cell c0 (n1, .inr (.inl (va_cpy f g sp.toNatClampNeg dp.toNatClampNeg n.toNatClampNeg))) := va_copied (fun z => .long z) c0 c0 f g g4
  rw [e1] at X' step
  have hl : a1 < H.size := (Array.getElem?_eq_some_iff.mp h1).1
  have hheap : ((T.setVm vm').setCell a1 (vp_cell c0 (n1, .inr (.inl (va_cpy f g sp.toNatClampNeg dp.toNatClampNeg n.toNatClampNeg))))).heap = H.setIfInBounds a1 (vp_cell c0 (n1, .inr (.inl (va_cpy f g sp.toNatClampNeg dp.toNatClampNeg n.toNatClampNeg)))) := by rw [← hT]; rfl
  obtain ⟨t, b1, b2⟩ := kk _ _ (show (H.setIfInBounds a1 _)[a1]? = some _ by simp [Array.getElem?_setIfInBounds, hl]) (by simp) (fun q hq => by simp [Array.getElem?_setIfInBounds, Ne.symm hq]) (fun q hq => by
    obtain ⟨z, -, hz⟩ := List.mem_map.mp hq
    rw [← hz]) _ hheap X'
  exact ⟨t, step t b1, b2⟩
theorem z_locL {L : List Loc} {a : Nat} (hlo : ∀ q ∈ locs, b ≤ q.base) (ha : b ≤ a) (hL : ∀ q ∈ L, q.base = a) : ∀ q ∈ locs ++ L, b ≤ q.base := by
  intro q hq
  rcases List.mem_append.mp hq with h1 | h1
  · exact hlo q h1
  · rw [hL q h1]
    exact ha
theorem z_cp (C : SC p s m args meth c R i D tA cst b) (hR : HR D tA cst b s h H) (hlo : ∀ q ∈ locs, b ≤ q.base) (hl : lv_has ls (m_lc i) (ml cst b lv)) {idx : Nat} (hlink : (Cond.methodLink (m_m i).2.1.cls idx arraycopyName).before args s = true) (hd : decode (m_m i).2.2.1 pc = .ok (.invokestatic idx, 3)) (hs : e_cp i pc lv st h = some (.inl S)) : HS p l e R s m args below meth c H locs cells slots Q i D tA cst b h pc ls st S := by
  have hks := C.2.2.2.2.2.2.2.2.2.1
  have hc := C.2.2.2.2.2.2.2.2.2.2.1
  have hfr := C.2.2.2.2.2.2.2.1
  have hlo9 := C.2.2.2.2.2.2.2.2.1
  unfold e_cp at hs
  split at hs
  · next n dp a1 sp a0 r =>
    split at hs
    · next hk =>
      obtain ⟨ha0, ha1, g1, g2, g3, g4, g5, g6, g7, g8⟩ := hk
      split at hs
      · next hk2 =>
        cases hs
        refine ⟨⟨rfl, rfl⟩, fun K => ?_⟩
        show W p l e R s m args below meth c H locs cells slots Q (F0 m pc ls (.int n :: .int dp :: mv cst b (.ref a1) :: .int sp :: mv cst b (.ref a0) :: r.map (mv cst b)))
        rw [mv_dyn ha0, mv_dyn ha1]
        have key : ∀ (k : Nat) (ty : FieldType), (h_k h a0).1 = k → (h_k h a1).1 = k → (k = 20 ∨ k = 21) → ArrOfT s (tA k) ty → refKind ty = false → (∀ j, fits ty (.int (h_i h a0 j)) = true) → W p l e R s m args below meth c H locs cells slots Q (F0 m pc ls (.int n :: .int dp :: .ref (b + (a1 - 16)) :: .int sp :: .ref (b + (a0 - 16)) :: r.map (mv cst b))) := by
          intro k ty e0 e1 hk20 hA hprim hfit
          obtain ⟨-, hc0, -⟩ := hR.arr ha0 (by omega)
          obtain ⟨-, hc1, hf1⟩ := hR.arr ha1 (by omega)
          rw [e0] at hc0
          rw [e1] at hc1
          have n1 : k < 25 := by omega
          have c0 : arrV (tA k) (h_k h a0).2 (m_av cst b h a0 k) = vp_cell (tA k) ((h_k h a0).2, .inl (h_i h a0)) := by
            rw [vp_cell_i]
            congr 1
            funext j
            unfold m_av
            rw [if_pos n1]
          have c1 : arrV (tA k) (h_k h a1).2 (m_av cst b h a1 k) = vp_cell (tA k) ((h_k h a1).2, .inl (h_i h a1)) := by
            rw [vp_cell_i]
            congr 1
            funext j
            unfold m_av
            rw [if_pos n1]
          rw [c0] at hc0
          rw [c1] at hc1
          refine z_cpW C hl.1 hc0 hc1 hA hprim g1 g2 g3 g4 g5 (fun j _ => hfit _) (Nat.le_trans g6 hfr) (by rw [mv_sum hc]; omega) hlink hd (fun H1 L q1 q2 q3 q4 => ?_)
          refine K H1 _ ls (hR.upd ha1 rfl rfl (fun y hy => ⟨if_neg hy, rfl, rfl⟩) q2 q3 (Or.inr ⟨?_, ?_, ?_⟩)) (z_locL hlo (Nat.le_add_right b _) q4) hl
          · show m_okk (h_k h a1).1 = true
            rw [e1]
            rcases hk20 with q | q <;> rw [q] <;> rfl
          · show H1[b + (a1 - 16)]? = some (arrV (tA (h_k h a1).1) (h_k h a1).2 (m_av cst b (h_cpi h a0 a1 sp.toNatClampNeg dp.toNatClampNeg n.toNatClampNeg) a1 (h_k h a1).1))
            rw [e1, q1, vp_cell_i]
            congr 2
            funext j
            unfold m_av
            rw [if_pos n1]
            show _ = Value.int (m_u h.2.2.1 a1 _ a1 j)
            unfold m_u
            rw [if_pos rfl]
            rfl
          · intro h21 j
            have h21 : (h_k h a1).1 = 21 := h21
            show fits .byte (.int (m_u h.2.2.1 a1 _ a1 j)) = true
            unfold m_u
            rw [if_pos rfl]
            split
            · exact (hR.arr ha0 (by omega)).2.2 (by omega) _
            · exact hf1 h21 j
        rcases hk2 with ⟨e0, e1⟩ | ⟨e0, e1⟩
        · exact key 20 .int e0 e1 (Or.inl rfl) (hks.1.2 0 _ rfl).1 rfl (fun j => rfl)
        · exact key 21 .byte e0 e1 (Or.inr rfl) (hks.1.2 1 _ rfl).1 rfl (fun j => (hR.arr ha0 (by omega)).2.2 e0 j)
      · split at hs
        · next hk2 =>
          obtain ⟨e0, e1⟩ := hk2
          cases hs
          refine ⟨⟨rfl, rfl⟩, fun K => ?_⟩
          show W p l e R s m args below meth c H locs cells slots Q (F0 m pc ls (.int n :: .int dp :: mv cst b (.ref a1) :: .int sp :: mv cst b (.ref a0) :: r.map (mv cst b)))
          rw [mv_dyn ha0, mv_dyn ha1]
          obtain ⟨-, hc0, -⟩ := hR.arr ha0 (by omega)
          obtain ⟨-, hc1, -⟩ := hR.arr ha1 (by omega)
          rw [e0] at hc0
          rw [e1] at hc1
          have c0 : arrV (tA 25) (h_k h a0).2 (m_av cst b h a0 25) = vp_cell (tA 25) ((h_k h a0).2, .inr (.inl (h_l h a0))) := by
            rw [vp_cell_l]
            rfl
          have c1 : arrV (tA 25) (h_k h a1).2 (m_av cst b h a1 25) = vp_cell (tA 25) ((h_k h a1).2, .inr (.inl (h_l h a1))) := by
            rw [vp_cell_l]
            rfl
          rw [c0] at hc0
          rw [c1] at hc1
          refine z_cpWL C hl.1 hc0 hc1 (hks.1.2 3 _ rfl).1 g1 g2 g3 g4 g5 (Nat.le_trans g6 hfr) (by rw [mv_sum hc]; omega) hlink hd (fun H1 L q1 q2 q3 q4 => ?_)
          refine K H1 _ ls (hR.upd ha1 rfl rfl (fun y hy => ⟨rfl, if_neg hy, rfl⟩) q2 q3 (Or.inr ⟨?_, ?_, ?_⟩)) (z_locL hlo (Nat.le_add_right b _) q4) hl
          · show m_okk (h_k h a1).1 = true
            rw [e1]
            rfl
          · show H1[b + (a1 - 16)]? = some (arrV (tA (h_k h a1).1) (h_k h a1).2 (m_av cst b (h_cpl h a0 a1 sp.toNatClampNeg dp.toNatClampNeg n.toNatClampNeg) a1 (h_k h a1).1))
            rw [e1, q1, vp_cell_l]
            congr 2
            funext j
            show _ = Value.long (m_u h.2.2.2.1 a1 _ a1 j)
            unfold m_u
            rw [if_pos rfl]
            rfl
          · intro h21
            have h21 : (h_k h a1).1 = 21 := h21
            omega
        · cases hs
    · cases hs
  · cases hs
-- a call that is one step here: Object's constructor, a copy, Math's own
theorem z_call1 (C : SC p s m args meth c R i D tA cst b) (hR : HR D tA cst b s h H) (hlo : ∀ q ∈ locs, b ≤ q.base) (hl : lv_has ls (m_lc i) (ml cst b lv)) {kd idx : Nat} {ins : Instr} (hcl : cells ≤ R.cells) (hsl : slots ≤ R.slots) (hd : decode (m_m i).2.2.1 pc = .ok (ins, 3)) (hi : (kd = 0 ∧ ins = .invokestatic idx) ∨ (kd = 1 ∧ ins = .invokevirtual idx) ∨ (kd = 2 ∧ ins = .invokespecial idx)) (hs : e_call kd i idx pc lv st h = some (.inl S)) : HS p l e R s m args below meth c H locs cells slots Q i D tA cst b h pc ls st S := by
  obtain ⟨hx, hb, hml, hown, hts, hlocks, hini, hfr, hlo9, hks, hc, hr⟩ := id C
  have hmls : c.maxLocals = ls.size := by rw [hml]; exact hl.1.symm
  unfold e_call at hs
  split at hs
  · next nest j hf =>
    have hw := m_mlw hf
    split at hs
    · next hj =>
      subst hj
      split at hs
      · next a r =>
        split at hs
        · next hk =>
          obtain ⟨hk2, ha, g1, g2, g3⟩ := hk
          cases hs
          have hins : ins = .invokespecial idx := by
            rcases hi with ⟨q, -⟩ | ⟨q, -⟩ | ⟨-, q⟩
            · omega
            · omega
            · exact q
          subst hins
          refine ⟨⟨rfl, rfl⟩, fun K => ?_⟩
          show W p l e R s m args below meth c H locs cells slots Q (F0 m pc ls (mv cst b (.ref a) :: r.map (mv cst b)))
          rw [mv_dyn ha]
          have hnest : nest = 0 := by
            exact m_kobjn (m_own_ok i) hf (Or.inl rfl)
          subst hnest
          exact W.objInit hx hb hown (hts _ (m_tgI hw rfl)) (hts _ (m_tgI (m_karr _ (List.mem_of_getElem? (i := 11) rfl)) rfl)) (hts _ (m_tgI m_kobj rfl)) rfl (by rw [hmls]) rfl hd (Nat.le_trans g1 hfr) (by rw [mv_sum hc]; show 2 * 0 + _ + 12 ≤ _; omega) (K H locs ls hR hlo hl)
        · cases hs
      · cases hs
    · split at hs
      · next hj1 hj =>
        subst hj
        split at hs
        · next hk0 =>
          have hins : ins = .invokestatic idx := by
            rcases hi with ⟨-, q⟩ | ⟨q, -⟩ | ⟨q, -⟩
            · exact q
            · omega
            · omega
          subst hins
          have hnest : nest = 0 := m_kobjn (m_own_ok i) hf (Or.inr rfl)
          subst hnest
          exact z_cp C hR hlo hl (hts _ (m_tgI hw rfl)) hd hs
        · cases hs
      · split at hs
        · next hj1 hj2 hj =>
          split at hs
          · next y x r =>
            split at hs
            · next hk =>
              obtain ⟨hk0, hn0, g1, g2⟩ := hk
              subst hn0
              have hins : ins = .invokestatic idx := by
                rcases hi with ⟨-, q⟩ | ⟨q, -⟩ | ⟨q, -⟩
                · exact q
                · omega
                · omega
              subst hins
              cases hs
              refine ⟨⟨rfl, rfl⟩, fun K => ?_⟩
              have K := K H locs ls hR hlo hl
              show W p l e R s m args below meth c H locs cells slots Q (F0 m pc ls (.int y :: .int x :: r.map (mv cst b)))
              have hw' : (Cond.methodLink (m_m i).2.1.cls idx (m_name j)).before args s = true := hts _ (m_tgI hw rfl)
              by_cases hjm : j = m_jmin
              · have K : W p l e R s m args below meth c H locs cells slots Q (F0 m (pc + 3) ls (.int (if j = m_jmin then (if y < x then y else x) else (if x < y then y else x)) :: r.map (mv cst b))) := K
                rw [if_pos hjm] at K
                rw [hjm, m_kjmin.1.1] at hw'
                exact va_mmin hx hb hmls hown hw' (hts _ (m_tgI m_kjmin.2.1 rfl)) (hts _ (m_tgI m_kjmin.2.2 rfl)) (hts _ (m_tgI m_kcmin rfl)) (Nat.le_trans g1 hfr) (by rw [mv_sum hc]; omega) hcl hsl hd K
              · have K : W p l e R s m args below meth c H locs cells slots Q (F0 m (pc + 3) ls (.int (if j = m_jmin then (if y < x then y else x) else (if x < y then y else x)) :: r.map (mv cst b))) := K
                rw [if_neg hjm] at K
                have hjx : j = m_jmax := hj.resolve_left hjm
                rw [hjx, m_kjmax.1.1] at hw'
                exact va_mmax hx hb hmls hown hw' (hts _ (m_tgI m_kjmax.2.1 rfl)) (hts _ (m_tgI m_kjmax.2.2 rfl)) (hts _ (m_tgI m_kcmax rfl)) (Nat.le_trans g1 hfr) (by rw [mv_sum hc]; omega) hcl hsl hd K
            · cases hs
          · cases hs
        · split at hs
          · next hj1 hj2 hj3 hj =>
            split at hs
            · next y x r =>
              split at hs
              · next hk =>
                obtain ⟨hk0, hn0, g1, g2⟩ := hk
                subst hn0
                have hins : ins = .invokestatic idx := by
                  rcases hi with ⟨-, q⟩ | ⟨q, -⟩ | ⟨q, -⟩
                  · exact q
                  · omega
                  · omega
                subst hins
                cases hs
                refine ⟨⟨rfl, rfl⟩, fun K => ?_⟩
                have K := K H locs ls hR hlo hl
                show W p l e R s m args below meth c H locs cells slots Q (F0 m pc ls (.long y :: .long x :: r.map (mv cst b)))
                have hw' : (Cond.methodLink (m_m i).2.1.cls idx (m_name j)).before args s = true := hts _ (m_tgI hw rfl)
                have K : W p l e R s m args below meth c H locs cells slots Q (F0 m (pc + 3) ls (.long (if j = m_jminl then (if y < x then y else x) else (if y < x then x else y)) :: r.map (mv cst b))) := K
                by_cases hjm : j = m_jminl
                · rw [if_pos hjm] at K
                  rw [hjm, m_kjminl.1.1] at hw'
                  exact va_mmin_long hx hb hmls hown hw' (hts _ (m_tgI m_kjminl.2.1 rfl)) (hts _ (m_tgI m_kjminl.2.2 rfl)) (hts _ (m_tgI m_kcminl rfl)) (Nat.le_trans g1 hfr) (by rw [mv_sum hc]; omega) hcl hsl hd K
                · rw [if_neg hjm] at K
                  have hjx : j = m_jmaxl := hj.resolve_left hjm
                  rw [hjx, m_kjmaxl.1.1] at hw'
                  exact va_mmax_long hx hb hmls hown hw' (hts _ (m_tgI m_kjmaxl.2.1 rfl)) (hts _ (m_tgI m_kjmaxl.2.2 rfl)) (hts _ (m_tgI m_kcmaxl rfl)) (Nat.le_trans g1 hfr) (by rw [mv_sum hc]; omega) hcl hsl hd K
              · cases hs
            · cases hs
          · exfalso
            revert hs
            repeat' split
            all_goals simp
  · cases hs
end SIMC
