-- THE STEPS OF THE SMALL MACHINE ARE STEPS OF THE REAL ONE
theorem m_lk_mem {α : Type} {l : List (Nat × α)} {k : Nat} {v : α} (h : m_lk l k = some v) : (k, v) ∈ l := by
  unfold m_lk at h
  cases hf : l.find? (fun e => e.1 == k) with
  | none => rw [hf] at h; cases h
  | some q =>
    rw [hf] at h
    cases h
    have h1 := List.mem_of_find?_eq_some hf
    have h2 := List.find?_some hf
    have h3 : q.1 = k := by simpa using h2
    rw [← h3]
    exact h1
theorem m_mem (i : Nat) : m_m i ∈ m_meths := by
  unfold m_m
  rw [List.getD_eq_getElem?_getD]
  cases h : m_meths[i]? with
  | none => exact List.mem_of_getElem? (i := 0) rfl
  | some q => exact List.mem_of_getElem? h
theorem m_dec {i pc : Nat} {e : Instr × Nat} (h : m_at i pc = some e) : decode (m_m i).2.2.1 pc = .ok e := by
  have h1 := List.all_eq_true.mp (m_kk _ (m_mem i)) _ (m_lk_mem h)
  exact of_decide_eq_true h1
theorem m_tgI {w : Cond} (h : w ∈ lw_tbl) (hg : goodWord w = true) : w ∈ m_tg0 := List.mem_filter.mpr ⟨h, hg⟩
theorem u_ws_good {C : String} {T : u_T} {N : Nat} : ∀ w ∈ u_ws C T N, goodWord w = true := by
  intro w hw
  obtain ⟨k, -, rfl⟩ := List.mem_map.mp hw
  unfold u_lay
  split <;> rfl
theorem m_clf (ci : Nat) (hc : ci < 10) : ∃ (q : vw_C), m_cl[ci]? = some q ∧ m_nf ci = q.2.2 ∧ (∀ w ∈ u_ws q.1 q.2.1 q.2.2, w ∈ m_tg0) ∧ (∀ a, a < q.2.2 → ∀ b, b < q.2.2 → a ≠ b → (q.2.1 a).2.1 ≠ (q.2.1 b).2.1) ∧ (∃ ty : Nat → FieldType, (∀ k, k < q.2.2 → parseFieldDescriptor (q.2.1 k).2.2.1 = some (ty k)) ∧ ∀ k, k < q.2.2 → ((m_ty ci k).1 = 0 → ty k = .int) ∧ ((m_ty ci k).1 = 1 → ty k = .long) ∧ ((m_ty ci k).1 ≠ 0 → (m_ty ci k).1 ≠ 1 → m_rr (some (ty k)) = true)) ∧ (∀ k, k < q.2.2 → (q.2.1 k).2.2.2 = (m_ty ci k).2) ∧ Cond.instantiable q.1 q.2.2 ∈ m_tg0 ∧ Cond.initialized q.1 ∈ m_tg0 ∧ (∀ k, k < q.2.2 → (q.2.1 k).1 = q.1) := by
  obtain ⟨q, ty, h1, h2, h3, h4, h5, h6, h7, h8⟩ := m_cfs ci hc
  exact ⟨q, h1, h2, fun w hw => m_tgI (h3 w hw) (u_ws_good w hw), h4, ⟨ty, h5, fun k hk => (h6 k hk).2.2⟩, fun k hk => (h6 k hk).2.1, m_tgI h7 rfl, m_tgI h8 rfl, fun k hk => (h6 k hk).1⟩
def SC (p : Program) (s : State) (m : MethodId) (args : Array Value) (meth : Method) (c : Code) (R : Room) (i : Nat) (D : va_G) (tA : Nat → ClassId) (cst : Nat → Value) (b : Nat) : Prop :=
  p.tables.exec = Jvm.exec ∧ c.code = (m_m i).2.2.1 ∧ c.maxLocals = m_lc i ∧ s.vm.findClass (m_m i).2.1.cls = some m.cls ∧ (∀ w ∈ m_tg0, w.before args s = true) ∧ meth.locks = false ∧ (m_kind i = 2 → meth.name = "<init>") ∧ m_fr i ≤ R.frames ∧ m_lo i ≤ R.locals ∧ KS D tA cst s ∧ m_cok cst ∧ meth.sig.returnType = m_rt i
section SIM
variable {p : Program} {l : Launch} {e : Env} {R : Room} {s : State} {m : MethodId} {args : Array Value} {below : List Frame} {meth : Method} {c : Code} {Q : State → Prop} {i : Nat} {D : va_G} {tA : Nat → ClassId} {cst : Nat → Value} {b : Nat}
variable {H : Heap} {locs : List Loc} {cells slots : Nat} {pc : Nat} {ls : Array Slot} {lv : List (Nat × Value)} {st : List Value} {h : MH} {S : MS}
-- what a step that changes no heap owes
def PS (p : Program) (l : Launch) (e : Env) (R : Room) (s : State) (m : MethodId) (args : Array Value) (below : List Frame) (meth : Method) (c : Code) (H : Heap) (locs : List Loc) (cells slots : Nat) (Q : State → Prop) (i : Nat) (cst : Nat → Value) (b : Nat) (h : MH) (pc : Nat) (ls : Array Slot) (st : List Value) (S : MS) : Prop :=
  S.2.2.2 = h ∧ ((∀ ls', lv_has ls' (m_lc i) (ml cst b S.2.1) → W p l e R s m args below meth c H locs cells slots Q (F0 m S.1 ls' (S.2.2.1.map (mv cst b)))) → W p l e R s m args below meth c H locs cells slots Q (F0 m pc ls (st.map (mv cst b))))
theorem x_push (hl : lv_has ls (m_lc i) (ml cst b lv)) {pc' : Nat} {v : Value} (row : W p l e R s m args below meth c H locs cells slots Q (F0 m pc' ls (mv cst b v :: st.map (mv cst b))) → W p l e R s m args below meth c H locs cells slots Q (F0 m pc ls (st.map (mv cst b)))) (hs : m_go pc' lv (v :: st) h = some (.inl S)) : PS p l e R s m args below meth c H locs cells slots Q i cst b h pc ls st S := by
  cases hs
  exact ⟨rfl, fun k => row (k ls hl)⟩
theorem x_ii (hl : lv_has ls (m_lc i) (ml cst b lv)) {f : Int32 → Int32 → Int32} (row : ∀ x y rest, W p l e R s m args below meth c H locs cells slots Q (F0 m (pc + 1) ls (.int (f x y) :: rest)) → W p l e R s m args below meth c H locs cells slots Q (F0 m pc ls (.int y :: .int x :: rest))) (hs : e_ii f pc lv st h = some (.inl S)) : PS p l e R s m args below meth c H locs cells slots Q i cst b h pc ls st S := by
  unfold e_ii at hs
  split at hs
  · cases hs
    exact ⟨rfl, fun k => row _ _ _ (k ls hl)⟩
  · cases hs
theorem x_ll (hl : lv_has ls (m_lc i) (ml cst b lv)) {f : Int64 → Int64 → Int64} (row : ∀ x y rest, W p l e R s m args below meth c H locs cells slots Q (F0 m (pc + 1) ls (.long (f x y) :: rest)) → W p l e R s m args below meth c H locs cells slots Q (F0 m pc ls (.long y :: .long x :: rest))) (hs : e_ll f pc lv st h = some (.inl S)) : PS p l e R s m args below meth c H locs cells slots Q i cst b h pc ls st S := by
  unfold e_ll at hs
  split at hs
  · cases hs
    exact ⟨rfl, fun k => row _ _ _ (k ls hl)⟩
  · cases hs
theorem x_li (hl : lv_has ls (m_lc i) (ml cst b lv)) {f : Int64 → Int32 → Int64} (row : ∀ x y rest, W p l e R s m args below meth c H locs cells slots Q (F0 m (pc + 1) ls (.long (f x y) :: rest)) → W p l e R s m args below meth c H locs cells slots Q (F0 m pc ls (.int y :: .long x :: rest))) (hs : e_li f pc lv st h = some (.inl S)) : PS p l e R s m args below meth c H locs cells slots Q i cst b h pc ls st S := by
  unfold e_li at hs
  split at hs
  · cases hs
    exact ⟨rfl, fun k => row _ _ _ (k ls hl)⟩
  · cases hs
theorem x_dv (hl : lv_has ls (m_lc i) (ml cst b lv)) {f : Int32 → Int32 → Int32} (row : ∀ x y rest, ¬ y = 0 → W p l e R s m args below meth c H locs cells slots Q (F0 m (pc + 1) ls (.int (f x y) :: rest)) → W p l e R s m args below meth c H locs cells slots Q (F0 m pc ls (.int y :: .int x :: rest))) (hs : e_dv f pc lv st h = some (.inl S)) : PS p l e R s m args below meth c H locs cells slots Q i cst b h pc ls st S := by
  unfold e_dv at hs
  split at hs
  · split at hs
    · cases hs
    · next hy =>
      cases hs
      exact ⟨rfl, fun k => row _ _ _ hy (k ls hl)⟩
  · cases hs
theorem x_i (hl : lv_has ls (m_lc i) (ml cst b lv)) {f : Int32 → Value} (row : ∀ x rest, W p l e R s m args below meth c H locs cells slots Q (F0 m (pc + 1) ls (mv cst b (f x) :: rest)) → W p l e R s m args below meth c H locs cells slots Q (F0 m pc ls (.int x :: rest))) (hs : e_i f pc lv st h = some (.inl S)) : PS p l e R s m args below meth c H locs cells slots Q i cst b h pc ls st S := by
  unfold e_i at hs
  split at hs
  · cases hs
    exact ⟨rfl, fun k => row _ _ (k ls hl)⟩
  · cases hs
theorem x_l (hl : lv_has ls (m_lc i) (ml cst b lv)) {f : Int64 → Value} (row : ∀ x rest, W p l e R s m args below meth c H locs cells slots Q (F0 m (pc + 1) ls (mv cst b (f x) :: rest)) → W p l e R s m args below meth c H locs cells slots Q (F0 m pc ls (.long x :: rest))) (hs : e_l f pc lv st h = some (.inl S)) : PS p l e R s m args below meth c H locs cells slots Q i cst b h pc ls st S := by
  unfold e_l at hs
  split at hs
  · cases hs
    exact ⟨rfl, fun k => row _ _ (k ls hl)⟩
  · cases hs
theorem x_ild (hl : lv_has ls (m_lc i) (ml cst b lv)) {k pc' : Nat} (row : ∀ x, ls[k]? = some (.val (.int x)) → W p l e R s m args below meth c H locs cells slots Q (F0 m pc' ls (.int x :: st.map (mv cst b))) → W p l e R s m args below meth c H locs cells slots Q (F0 m pc ls (st.map (mv cst b)))) (hs : e_ild k pc' lv st h = some (.inl S)) : PS p l e R s m args below meth c H locs cells slots Q i cst b h pc ls st S := by
  unfold e_ild at hs
  split at hs
  · next x hx =>
    cases hs
    exact ⟨rfl, fun k => row x (ml_get hl hx) (k ls hl)⟩
  · cases hs
theorem x_lld (hl : lv_has ls (m_lc i) (ml cst b lv)) {k pc' : Nat} (row : ∀ x, ls[k]? = some (.val (.long x)) → W p l e R s m args below meth c H locs cells slots Q (F0 m pc' ls (.long x :: st.map (mv cst b))) → W p l e R s m args below meth c H locs cells slots Q (F0 m pc ls (st.map (mv cst b)))) (hs : e_lld k pc' lv st h = some (.inl S)) : PS p l e R s m args below meth c H locs cells slots Q i cst b h pc ls st S := by
  unfold e_lld at hs
  split at hs
  · next x hx =>
    cases hs
    exact ⟨rfl, fun k => row x (ml_get hl hx) (k ls hl)⟩
  · cases hs
theorem x_ald (hc : m_cok cst) (hl : lv_has ls (m_lc i) (ml cst b lv)) {k pc' : Nat} (row : ∀ x : Nat, ls[k]? = some (.val (.ref x)) → W p l e R s m args below meth c H locs cells slots Q (F0 m pc' ls (.ref x :: st.map (mv cst b))) → W p l e R s m args below meth c H locs cells slots Q (F0 m pc ls (st.map (mv cst b)))) (rowN : ls[k]? = some (.val .null) → W p l e R s m args below meth c H locs cells slots Q (F0 m pc' ls (.null :: st.map (mv cst b))) → W p l e R s m args below meth c H locs cells slots Q (F0 m pc ls (st.map (mv cst b)))) (hs : e_ald k pc' lv st h = some (.inl S)) : PS p l e R s m args below meth c H locs cells slots Q i cst b h pc ls st S := by
  unfold e_ald at hs
  split at hs
  · next x hx =>
    cases hs
    refine ⟨rfl, fun k9 => ?_⟩
    have h1 := ml_get hl hx
    have h2 : W p l e R s m args below meth c H locs cells slots Q (F0 m pc' ls (mv cst b (.ref x) :: st.map (mv cst b))) := k9 ls hl
    rcases mv_ref (b := b) hc x with h3 | ⟨r, h3⟩
    · rw [h3] at h1 h2
      exact rowN h1 h2
    · rw [h3] at h1 h2
      exact row r h1 h2
  · cases hs
theorem x_ist (hc : m_cok cst) (hl : lv_has ls (m_lc i) (ml cst b lv)) {k pc' : Nat} (row : ∀ (x : Int32) (rest : List Value), k < m_lc i → (∀ ls', lv_has ls' (m_lc i) (ml cst b (m_s1 lv k (.int x))) → W p l e R s m args below meth c H locs cells slots Q (F0 m pc' ls' rest)) → W p l e R s m args below meth c H locs cells slots Q (F0 m pc ls (.int x :: rest))) (hs : e_ist (m_lc i) k pc' lv st h = some (.inl S)) : PS p l e R s m args below meth c H locs cells slots Q i cst b h pc ls st S := by
  unfold e_ist at hs
  split at hs
  · split at hs
    · next hk =>
      cases hs
      exact ⟨rfl, fun k9 => row _ _ hk k9⟩
    · cases hs
  · cases hs
theorem x_lst (hc : m_cok cst) (hl : lv_has ls (m_lc i) (ml cst b lv)) {k pc' : Nat} (row : ∀ (x : Int64) (rest : List Value), k + 1 < m_lc i → (∀ ls', lv_has ls' (m_lc i) (ml cst b (m_s2 lv k (.long x))) → W p l e R s m args below meth c H locs cells slots Q (F0 m pc' ls' rest)) → W p l e R s m args below meth c H locs cells slots Q (F0 m pc ls (.long x :: rest))) (hs : e_lst (m_lc i) k pc' lv st h = some (.inl S)) : PS p l e R s m args below meth c H locs cells slots Q i cst b h pc ls st S := by
  unfold e_lst at hs
  split at hs
  · split at hs
    · next hk =>
      cases hs
      exact ⟨rfl, fun k9 => row _ _ hk k9⟩
    · cases hs
  · cases hs
theorem x_ast (hc : m_cok cst) (hl : lv_has ls (m_lc i) (ml cst b lv)) {k pc' : Nat} (row : ∀ (x : Nat) (rest : List Value) (lv' : List (Nat × Value)), k < m_lc i → (k, Value.ref x) :: (ml cst b lv).filter (fun q => !(q.1 == k) && !(q.1 + 1 == k && q.2.category == 2)) = lv' → (∀ ls', lv_has ls' (m_lc i) lv' → W p l e R s m args below meth c H locs cells slots Q (F0 m pc' ls' rest)) → W p l e R s m args below meth c H locs cells slots Q (F0 m pc ls (.ref x :: rest))) (rowN : ∀ (rest : List Value) (lv' : List (Nat × Value)), k < m_lc i → (k, Value.null) :: (ml cst b lv).filter (fun q => !(q.1 == k) && !(q.1 + 1 == k && q.2.category == 2)) = lv' → (∀ ls', lv_has ls' (m_lc i) lv' → W p l e R s m args below meth c H locs cells slots Q (F0 m pc' ls' rest)) → W p l e R s m args below meth c H locs cells slots Q (F0 m pc ls (.null :: rest))) (hs : e_ast (m_lc i) k pc' lv st h = some (.inl S)) : PS p l e R s m args below meth c H locs cells slots Q i cst b h pc ls st S := by
  unfold e_ast at hs
  split at hs
  · next x r =>
    split at hs
    · next hk =>
      cases hs
      refine ⟨rfl, fun k9 => ?_⟩
      have h1 := ml_s1 (b := b) hc lv k (.ref x)
      show W p l e R s m args below meth c H locs cells slots Q (F0 m pc ls (mv cst b (.ref x) :: r.map (mv cst b)))
      rcases mv_ref (b := b) hc x with h3 | ⟨y, h3⟩
      · rw [h3] at h1 ⊢
        exact rowN _ _ hk h1 k9
      · rw [h3] at h1 ⊢
        exact row y _ _ hk h1 k9
    · cases hs
  · cases hs
theorem x_inc (hc : m_cok cst) (hl : lv_has ls (m_lc i) (ml cst b lv)) {k : Nat} {z : Int} (row : ∀ (x : Int32) (j : Nat), (ml cst b lv)[j]? = some (k, .int x) → k < m_lc i → (∀ ls', lv_has ls' (m_lc i) (ml cst b (m_s1 lv k (.int (x + Int32.ofInt z)))) → W p l e R s m args below meth c H locs cells slots Q (F0 m (pc + 3) ls' (st.map (mv cst b)))) → W p l e R s m args below meth c H locs cells slots Q (F0 m pc ls (st.map (mv cst b)))) (hs : e_inc (m_lc i) k z pc lv st h = some (.inl S)) : PS p l e R s m args below meth c H locs cells slots Q i cst b h pc ls st S := by
  unfold e_inc at hs
  split at hs
  · next x hx =>
    split at hs
    · next hk =>
      cases hs
      have h1 : (k, mv cst b (.int x)) ∈ ml cst b lv := List.mem_map.mpr ⟨_, m_lk_mem hx, rfl⟩
      obtain ⟨j, hj⟩ := List.getElem?_of_mem h1
      exact ⟨rfl, fun k9 => row x j hj hk k9⟩
    · cases hs
  · cases hs
theorem x_tg {off : Int} {r : List Value} (hl : lv_has ls (m_lc i) (ml cst b lv)) (row : ∀ tgt : Nat, (pc : Int) + off = (tgt : Int) → W p l e R s m args below meth c H locs cells slots Q (F0 m tgt ls (r.map (mv cst b))) → W p l e R s m args below meth c H locs cells slots Q (F0 m pc ls (st.map (mv cst b)))) (hs : m_tg pc off lv r h = some (.inl S)) : PS p l e R s m args below meth c H locs cells slots Q i cst b h pc ls st S := by
  unfold m_tg at hs
  split at hs
  · next h0 =>
    cases hs
    exact ⟨rfl, fun k => row _ (Int.toNat_of_nonneg h0).symm (k ls hl)⟩
  · cases hs
theorem x_br {off : Int} {r : List Value} {A B : Prop} {t : Bool} (hl : lv_has ls (m_lc i) (ml cst b lv)) (ht : t = true → A) (hf : t = false → B) (row : ∀ tgt : Nat, (pc : Int) + off = (tgt : Int) → A → W p l e R s m args below meth c H locs cells slots Q (F0 m tgt ls (r.map (mv cst b))) → W p l e R s m args below meth c H locs cells slots Q (F0 m pc ls (st.map (mv cst b)))) (rowF : ∀ tgt : Nat, (pc : Int) + off = (tgt : Int) → B → W p l e R s m args below meth c H locs cells slots Q (F0 m (pc + 3) ls (r.map (mv cst b))) → W p l e R s m args below meth c H locs cells slots Q (F0 m pc ls (st.map (mv cst b)))) (hs : m_br t pc off lv r h = some (.inl S)) : PS p l e R s m args below meth c H locs cells slots Q i cst b h pc ls st S := by
  unfold m_br at hs
  split at hs
  · next h0 =>
    split at hs
    · cases hs
      exact ⟨rfl, fun k => row _ (Int.toNat_of_nonneg h0).symm (ht rfl) (k ls hl)⟩
    · cases hs
      exact ⟨rfl, fun k => rowF _ (Int.toNat_of_nonneg h0).symm (hf rfl) (k ls hl)⟩
  · cases hs
theorem y_iconst (C : SC p s m args meth c R i D tA cst b) (hl : lv_has ls (m_lc i) (ml cst b lv)) {len : Nat} {n : Int} (hd : decode (m_m i).2.2.1 pc = .ok (.iconst n, len)) (hn : len = 1) (hs : m_ex i pc (.iconst n) lv st h = some (.inl S)) : PS p l e R s m args below meth c H locs cells slots Q i cst b h pc ls st S := by
  obtain ⟨hx, hb, hml, hown, hts, hlocks, hini, hfr, hlo9, hks, hc, hr⟩ := C
  subst hn
  exact x_push hl (fun k => lv_iconst hx hb hd rfl k) hs
theorem y_bipush (C : SC p s m args meth c R i D tA cst b) (hl : lv_has ls (m_lc i) (ml cst b lv)) {len : Nat} {n : Int} (hd : decode (m_m i).2.2.1 pc = .ok (.bipush n, len)) (hn : len = 2) (hs : m_ex i pc (.bipush n) lv st h = some (.inl S)) : PS p l e R s m args below meth c H locs cells slots Q i cst b h pc ls st S := by
  obtain ⟨hx, hb, hml, hown, hts, hlocks, hini, hfr, hlo9, hks, hc, hr⟩ := C
  subst hn
  exact x_push hl (fun k => lv_bipush hx hb hd rfl k) hs
theorem y_sipush (C : SC p s m args meth c R i D tA cst b) (hl : lv_has ls (m_lc i) (ml cst b lv)) {len : Nat} {n : Int} (hd : decode (m_m i).2.2.1 pc = .ok (.sipush n, len)) (hn : len = 3) (hs : m_ex i pc (.sipush n) lv st h = some (.inl S)) : PS p l e R s m args below meth c H locs cells slots Q i cst b h pc ls st S := by
  obtain ⟨hx, hb, hml, hown, hts, hlocks, hini, hfr, hlo9, hks, hc, hr⟩ := C
  subst hn
  exact x_push hl (fun k => lv_sipush hx hb hd rfl k) hs
theorem y_lconst (C : SC p s m args meth c R i D tA cst b) (hl : lv_has ls (m_lc i) (ml cst b lv)) {len : Nat} {n : Fin 2} (hd : decode (m_m i).2.2.1 pc = .ok (.lconst n, len)) (hn : len = 1) (hs : m_ex i pc (.lconst n) lv st h = some (.inl S)) : PS p l e R s m args below meth c H locs cells slots Q i cst b h pc ls st S := by
  obtain ⟨hx, hb, hml, hown, hts, hlocks, hini, hfr, hlo9, hks, hc, hr⟩ := C
  subst hn
  exact x_push hl (fun k => lv_lconst hx hb hd rfl k) hs
theorem y_aconst (C : SC p s m args meth c R i D tA cst b) (hl : lv_has ls (m_lc i) (ml cst b lv)) {len : Nat}  (hd : decode (m_m i).2.2.1 pc = .ok (.aconst_null, len)) (hn : len = 1) (hs : m_ex i pc (.aconst_null) lv st h = some (.inl S)) : PS p l e R s m args below meth c H locs cells slots Q i cst b h pc ls st S := by
  obtain ⟨hx, hb, hml, hown, hts, hlocks, hini, hfr, hlo9, hks, hc, hr⟩ := C
  subst hn
  exact x_push hl (fun k => lv_null hx hb hd k) hs
theorem y_iadd (C : SC p s m args meth c R i D tA cst b) (hl : lv_has ls (m_lc i) (ml cst b lv)) {len : Nat}  (hd : decode (m_m i).2.2.1 pc = .ok (.iadd, len)) (hn : len = 1) (hs : m_ex i pc (.iadd) lv st h = some (.inl S)) : PS p l e R s m args below meth c H locs cells slots Q i cst b h pc ls st S := by
  obtain ⟨hx, hb, hml, hown, hts, hlocks, hini, hfr, hlo9, hks, hc, hr⟩ := C
  subst hn
  exact x_ii hl (fun x y r k => lv_iadd hx hb hd k) hs
theorem y_isub (C : SC p s m args meth c R i D tA cst b) (hl : lv_has ls (m_lc i) (ml cst b lv)) {len : Nat}  (hd : decode (m_m i).2.2.1 pc = .ok (.isub, len)) (hn : len = 1) (hs : m_ex i pc (.isub) lv st h = some (.inl S)) : PS p l e R s m args below meth c H locs cells slots Q i cst b h pc ls st S := by
  obtain ⟨hx, hb, hml, hown, hts, hlocks, hini, hfr, hlo9, hks, hc, hr⟩ := C
  subst hn
  exact x_ii hl (fun x y r k => lv_isub hx hb hd k) hs
theorem y_imul (C : SC p s m args meth c R i D tA cst b) (hl : lv_has ls (m_lc i) (ml cst b lv)) {len : Nat}  (hd : decode (m_m i).2.2.1 pc = .ok (.imul, len)) (hn : len = 1) (hs : m_ex i pc (.imul) lv st h = some (.inl S)) : PS p l e R s m args below meth c H locs cells slots Q i cst b h pc ls st S := by
  obtain ⟨hx, hb, hml, hown, hts, hlocks, hini, hfr, hlo9, hks, hc, hr⟩ := C
  subst hn
  exact x_ii hl (fun x y r k => lv_imul hx hb hd k) hs
theorem y_iand (C : SC p s m args meth c R i D tA cst b) (hl : lv_has ls (m_lc i) (ml cst b lv)) {len : Nat}  (hd : decode (m_m i).2.2.1 pc = .ok (.iand, len)) (hn : len = 1) (hs : m_ex i pc (.iand) lv st h = some (.inl S)) : PS p l e R s m args below meth c H locs cells slots Q i cst b h pc ls st S := by
  obtain ⟨hx, hb, hml, hown, hts, hlocks, hini, hfr, hlo9, hks, hc, hr⟩ := C
  subst hn
  exact x_ii hl (fun x y r k => lv_iand hx hb hd k) hs
theorem y_ior (C : SC p s m args meth c R i D tA cst b) (hl : lv_has ls (m_lc i) (ml cst b lv)) {len : Nat}  (hd : decode (m_m i).2.2.1 pc = .ok (.ior, len)) (hn : len = 1) (hs : m_ex i pc (.ior) lv st h = some (.inl S)) : PS p l e R s m args below meth c H locs cells slots Q i cst b h pc ls st S := by
  obtain ⟨hx, hb, hml, hown, hts, hlocks, hini, hfr, hlo9, hks, hc, hr⟩ := C
  subst hn
  exact x_ii hl (fun x y r k => lv_ior hx hb hd k) hs
theorem y_ixor (C : SC p s m args meth c R i D tA cst b) (hl : lv_has ls (m_lc i) (ml cst b lv)) {len : Nat}  (hd : decode (m_m i).2.2.1 pc = .ok (.ixor, len)) (hn : len = 1) (hs : m_ex i pc (.ixor) lv st h = some (.inl S)) : PS p l e R s m args below meth c H locs cells slots Q i cst b h pc ls st S := by
  obtain ⟨hx, hb, hml, hown, hts, hlocks, hini, hfr, hlo9, hks, hc, hr⟩ := C
  subst hn
  exact x_ii hl (fun x y r k => lv_ixor hx hb hd k) hs
theorem y_ishl (C : SC p s m args meth c R i D tA cst b) (hl : lv_has ls (m_lc i) (ml cst b lv)) {len : Nat}  (hd : decode (m_m i).2.2.1 pc = .ok (.ishl, len)) (hn : len = 1) (hs : m_ex i pc (.ishl) lv st h = some (.inl S)) : PS p l e R s m args below meth c H locs cells slots Q i cst b h pc ls st S := by
  obtain ⟨hx, hb, hml, hown, hts, hlocks, hini, hfr, hlo9, hks, hc, hr⟩ := C
  subst hn
  exact x_ii hl (fun x y r k => lv_ishl hx hb hd k) hs
theorem y_ishr (C : SC p s m args meth c R i D tA cst b) (hl : lv_has ls (m_lc i) (ml cst b lv)) {len : Nat}  (hd : decode (m_m i).2.2.1 pc = .ok (.ishr, len)) (hn : len = 1) (hs : m_ex i pc (.ishr) lv st h = some (.inl S)) : PS p l e R s m args below meth c H locs cells slots Q i cst b h pc ls st S := by
  obtain ⟨hx, hb, hml, hown, hts, hlocks, hini, hfr, hlo9, hks, hc, hr⟩ := C
  subst hn
  exact x_ii hl (fun x y r k => lv_ishr hx hb hd k) hs
theorem y_iushr (C : SC p s m args meth c R i D tA cst b) (hl : lv_has ls (m_lc i) (ml cst b lv)) {len : Nat}  (hd : decode (m_m i).2.2.1 pc = .ok (.iushr, len)) (hn : len = 1) (hs : m_ex i pc (.iushr) lv st h = some (.inl S)) : PS p l e R s m args below meth c H locs cells slots Q i cst b h pc ls st S := by
  obtain ⟨hx, hb, hml, hown, hts, hlocks, hini, hfr, hlo9, hks, hc, hr⟩ := C
  subst hn
  exact x_ii hl (fun x y r k => lv_iushr hx hb hd rfl k) hs
theorem y_ladd (C : SC p s m args meth c R i D tA cst b) (hl : lv_has ls (m_lc i) (ml cst b lv)) {len : Nat}  (hd : decode (m_m i).2.2.1 pc = .ok (.ladd, len)) (hn : len = 1) (hs : m_ex i pc (.ladd) lv st h = some (.inl S)) : PS p l e R s m args below meth c H locs cells slots Q i cst b h pc ls st S := by
  obtain ⟨hx, hb, hml, hown, hts, hlocks, hini, hfr, hlo9, hks, hc, hr⟩ := C
  subst hn
  exact x_ll hl (fun x y r k => lv_ladd hx hb hd k) hs
theorem y_lsub (C : SC p s m args meth c R i D tA cst b) (hl : lv_has ls (m_lc i) (ml cst b lv)) {len : Nat}  (hd : decode (m_m i).2.2.1 pc = .ok (.lsub, len)) (hn : len = 1) (hs : m_ex i pc (.lsub) lv st h = some (.inl S)) : PS p l e R s m args below meth c H locs cells slots Q i cst b h pc ls st S := by
  obtain ⟨hx, hb, hml, hown, hts, hlocks, hini, hfr, hlo9, hks, hc, hr⟩ := C
  subst hn
  exact x_ll hl (fun x y r k => lv_lsub hx hb hd k) hs
theorem y_land (C : SC p s m args meth c R i D tA cst b) (hl : lv_has ls (m_lc i) (ml cst b lv)) {len : Nat}  (hd : decode (m_m i).2.2.1 pc = .ok (.land, len)) (hn : len = 1) (hs : m_ex i pc (.land) lv st h = some (.inl S)) : PS p l e R s m args below meth c H locs cells slots Q i cst b h pc ls st S := by
  obtain ⟨hx, hb, hml, hown, hts, hlocks, hini, hfr, hlo9, hks, hc, hr⟩ := C
  subst hn
  exact x_ll hl (fun x y r k => lv_land hx hb hd k) hs
theorem y_lor (C : SC p s m args meth c R i D tA cst b) (hl : lv_has ls (m_lc i) (ml cst b lv)) {len : Nat}  (hd : decode (m_m i).2.2.1 pc = .ok (.lor, len)) (hn : len = 1) (hs : m_ex i pc (.lor) lv st h = some (.inl S)) : PS p l e R s m args below meth c H locs cells slots Q i cst b h pc ls st S := by
  obtain ⟨hx, hb, hml, hown, hts, hlocks, hini, hfr, hlo9, hks, hc, hr⟩ := C
  subst hn
  exact x_ll hl (fun x y r k => lv_lor hx hb hd k) hs
theorem y_lxor (C : SC p s m args meth c R i D tA cst b) (hl : lv_has ls (m_lc i) (ml cst b lv)) {len : Nat}  (hd : decode (m_m i).2.2.1 pc = .ok (.lxor, len)) (hn : len = 1) (hs : m_ex i pc (.lxor) lv st h = some (.inl S)) : PS p l e R s m args below meth c H locs cells slots Q i cst b h pc ls st S := by
  obtain ⟨hx, hb, hml, hown, hts, hlocks, hini, hfr, hlo9, hks, hc, hr⟩ := C
  subst hn
  exact x_ll hl (fun x y r k => lv_lxor hx hb hd k) hs
theorem y_lshl (C : SC p s m args meth c R i D tA cst b) (hl : lv_has ls (m_lc i) (ml cst b lv)) {len : Nat}  (hd : decode (m_m i).2.2.1 pc = .ok (.lshl, len)) (hn : len = 1) (hs : m_ex i pc (.lshl) lv st h = some (.inl S)) : PS p l e R s m args below meth c H locs cells slots Q i cst b h pc ls st S := by
  obtain ⟨hx, hb, hml, hown, hts, hlocks, hini, hfr, hlo9, hks, hc, hr⟩ := C
  subst hn
  exact x_li hl (fun x y r k => lv_lshl hx hb hd rfl k) hs
theorem y_lshr (C : SC p s m args meth c R i D tA cst b) (hl : lv_has ls (m_lc i) (ml cst b lv)) {len : Nat}  (hd : decode (m_m i).2.2.1 pc = .ok (.lshr, len)) (hn : len = 1) (hs : m_ex i pc (.lshr) lv st h = some (.inl S)) : PS p l e R s m args below meth c H locs cells slots Q i cst b h pc ls st S := by
  obtain ⟨hx, hb, hml, hown, hts, hlocks, hini, hfr, hlo9, hks, hc, hr⟩ := C
  subst hn
  exact x_li hl (fun x y r k => lv_lshr hx hb hd rfl k) hs
theorem y_lushr (C : SC p s m args meth c R i D tA cst b) (hl : lv_has ls (m_lc i) (ml cst b lv)) {len : Nat}  (hd : decode (m_m i).2.2.1 pc = .ok (.lushr, len)) (hn : len = 1) (hs : m_ex i pc (.lushr) lv st h = some (.inl S)) : PS p l e R s m args below meth c H locs cells slots Q i cst b h pc ls st S := by
  obtain ⟨hx, hb, hml, hown, hts, hlocks, hini, hfr, hlo9, hks, hc, hr⟩ := C
  subst hn
  exact x_li hl (fun x y r k => lv_lushr hx hb hd rfl k) hs
theorem y_idiv (C : SC p s m args meth c R i D tA cst b) (hl : lv_has ls (m_lc i) (ml cst b lv)) {len : Nat}  (hd : decode (m_m i).2.2.1 pc = .ok (.idiv, len)) (hn : len = 1) (hs : m_ex i pc (.idiv) lv st h = some (.inl S)) : PS p l e R s m args below meth c H locs cells slots Q i cst b h pc ls st S := by
  obtain ⟨hx, hb, hml, hown, hts, hlocks, hini, hfr, hlo9, hks, hc, hr⟩ := C
  subst hn
  exact x_dv hl (fun x y r hy k => lv_idiv hx hb hd hy k) hs
theorem y_irem (C : SC p s m args meth c R i D tA cst b) (hl : lv_has ls (m_lc i) (ml cst b lv)) {len : Nat}  (hd : decode (m_m i).2.2.1 pc = .ok (.irem, len)) (hn : len = 1) (hs : m_ex i pc (.irem) lv st h = some (.inl S)) : PS p l e R s m args below meth c H locs cells slots Q i cst b h pc ls st S := by
  obtain ⟨hx, hb, hml, hown, hts, hlocks, hini, hfr, hlo9, hks, hc, hr⟩ := C
  subst hn
  exact x_dv hl (fun x y r hy k => lv_irem hx hb hd hy k) hs
theorem y_ineg (C : SC p s m args meth c R i D tA cst b) (hl : lv_has ls (m_lc i) (ml cst b lv)) {len : Nat}  (hd : decode (m_m i).2.2.1 pc = .ok (.ineg, len)) (hn : len = 1) (hs : m_ex i pc (.ineg) lv st h = some (.inl S)) : PS p l e R s m args below meth c H locs cells slots Q i cst b h pc ls st S := by
  obtain ⟨hx, hb, hml, hown, hts, hlocks, hini, hfr, hlo9, hks, hc, hr⟩ := C
  subst hn
  exact x_i hl (f := fun x => .int (-x)) (fun x r k => lv_ineg hx hb hd k) hs
theorem y_lneg (C : SC p s m args meth c R i D tA cst b) (hl : lv_has ls (m_lc i) (ml cst b lv)) {len : Nat}  (hd : decode (m_m i).2.2.1 pc = .ok (.lneg, len)) (hn : len = 1) (hs : m_ex i pc (.lneg) lv st h = some (.inl S)) : PS p l e R s m args below meth c H locs cells slots Q i cst b h pc ls st S := by
  obtain ⟨hx, hb, hml, hown, hts, hlocks, hini, hfr, hlo9, hks, hc, hr⟩ := C
  subst hn
  exact x_l hl (f := fun x => .long (-x)) (fun x r k => lv_lneg hx hb hd k) hs
theorem y_i2l (C : SC p s m args meth c R i D tA cst b) (hl : lv_has ls (m_lc i) (ml cst b lv)) {len : Nat}  (hd : decode (m_m i).2.2.1 pc = .ok (.i2l, len)) (hn : len = 1) (hs : m_ex i pc (.i2l) lv st h = some (.inl S)) : PS p l e R s m args below meth c H locs cells slots Q i cst b h pc ls st S := by
  obtain ⟨hx, hb, hml, hown, hts, hlocks, hini, hfr, hlo9, hks, hc, hr⟩ := C
  subst hn
  exact x_i hl (f := fun x => .long x.toInt64) (fun x r k => lv_i2l hx hb hd rfl k) hs
theorem y_i2b (C : SC p s m args meth c R i D tA cst b) (hl : lv_has ls (m_lc i) (ml cst b lv)) {len : Nat}  (hd : decode (m_m i).2.2.1 pc = .ok (.i2b, len)) (hn : len = 1) (hs : m_ex i pc (.i2b) lv st h = some (.inl S)) : PS p l e R s m args below meth c H locs cells slots Q i cst b h pc ls st S := by
  obtain ⟨hx, hb, hml, hown, hts, hlocks, hini, hfr, hlo9, hks, hc, hr⟩ := C
  subst hn
  exact x_i hl (f := fun x => .int x.toInt8.toInt32) (fun x r k => lv_i2b hx hb hd rfl k) hs
theorem y_i2c (C : SC p s m args meth c R i D tA cst b) (hl : lv_has ls (m_lc i) (ml cst b lv)) {len : Nat}  (hd : decode (m_m i).2.2.1 pc = .ok (.i2c, len)) (hn : len = 1) (hs : m_ex i pc (.i2c) lv st h = some (.inl S)) : PS p l e R s m args below meth c H locs cells slots Q i cst b h pc ls st S := by
  obtain ⟨hx, hb, hml, hown, hts, hlocks, hini, hfr, hlo9, hks, hc, hr⟩ := C
  subst hn
  exact x_i hl (f := fun x => .int (x.toUInt32 % 65536).toInt32) (fun x r k => lv_i2c hx hb hd rfl k) hs
theorem y_l2i (C : SC p s m args meth c R i D tA cst b) (hl : lv_has ls (m_lc i) (ml cst b lv)) {len : Nat}  (hd : decode (m_m i).2.2.1 pc = .ok (.l2i, len)) (hn : len = 1) (hs : m_ex i pc (.l2i) lv st h = some (.inl S)) : PS p l e R s m args below meth c H locs cells slots Q i cst b h pc ls st S := by
  obtain ⟨hx, hb, hml, hown, hts, hlocks, hini, hfr, hlo9, hks, hc, hr⟩ := C
  subst hn
  exact x_l hl (f := fun x => .int x.toInt32) (fun x r k => lv_l2i hx hb hd rfl k) hs
theorem y_lcmp (C : SC p s m args meth c R i D tA cst b) (hl : lv_has ls (m_lc i) (ml cst b lv)) {len : Nat}  (hd : decode (m_m i).2.2.1 pc = .ok (.lcmp, len)) (hn : len = 1) (hs : m_ex i pc (.lcmp) lv st h = some (.inl S)) : PS p l e R s m args below meth c H locs cells slots Q i cst b h pc ls st S := by
  obtain ⟨hx, hb, hml, hown, hts, hlocks, hini, hfr, hlo9, hks, hc, hr⟩ := C
  subst hn
  simp only [m_ex] at hs
  split at hs
  · cases hs
    exact ⟨rfl, fun k => W.lcmp hx hb hd (k ls hl)⟩
  · cases hs
theorem y_iload_n (C : SC p s m args meth c R i D tA cst b) (hl : lv_has ls (m_lc i) (ml cst b lv)) {len : Nat} {k : Fin 4} (hd : decode (m_m i).2.2.1 pc = .ok (.iload_n k, len)) (hn : len = 1) (hs : m_ex i pc (.iload_n k) lv st h = some (.inl S)) : PS p l e R s m args below meth c H locs cells slots Q i cst b h pc ls st S := by
  obtain ⟨hx, hb, hml, hown, hts, hlocks, hini, hfr, hlo9, hks, hc, hr⟩ := C
  subst hn
  exact x_ild hl (fun x hx9 k9 => lv_iload_n hx hb hd rfl hx9 k9) hs
theorem y_iload (C : SC p s m args meth c R i D tA cst b) (hl : lv_has ls (m_lc i) (ml cst b lv)) {len : Nat} {k : Nat} (hd : decode (m_m i).2.2.1 pc = .ok (.iload k, len)) (hn : len = 2) (hs : m_ex i pc (.iload k) lv st h = some (.inl S)) : PS p l e R s m args below meth c H locs cells slots Q i cst b h pc ls st S := by
  obtain ⟨hx, hb, hml, hown, hts, hlocks, hini, hfr, hlo9, hks, hc, hr⟩ := C
  subst hn
  exact x_ild hl (fun x hx9 k9 => lv_iload hx hb hd hx9 k9) hs
theorem y_lload_n (C : SC p s m args meth c R i D tA cst b) (hl : lv_has ls (m_lc i) (ml cst b lv)) {len : Nat} {k : Fin 4} (hd : decode (m_m i).2.2.1 pc = .ok (.lload_n k, len)) (hn : len = 1) (hs : m_ex i pc (.lload_n k) lv st h = some (.inl S)) : PS p l e R s m args below meth c H locs cells slots Q i cst b h pc ls st S := by
  obtain ⟨hx, hb, hml, hown, hts, hlocks, hini, hfr, hlo9, hks, hc, hr⟩ := C
  subst hn
  exact x_lld hl (fun x hx9 k9 => lv_lload_n hx hb hd rfl hx9 k9) hs
theorem y_lload (C : SC p s m args meth c R i D tA cst b) (hl : lv_has ls (m_lc i) (ml cst b lv)) {len : Nat} {k : Nat} (hd : decode (m_m i).2.2.1 pc = .ok (.lload k, len)) (hn : len = 2) (hs : m_ex i pc (.lload k) lv st h = some (.inl S)) : PS p l e R s m args below meth c H locs cells slots Q i cst b h pc ls st S := by
  obtain ⟨hx, hb, hml, hown, hts, hlocks, hini, hfr, hlo9, hks, hc, hr⟩ := C
  subst hn
  exact x_lld hl (fun x hx9 k9 => lv_lload hx hb hd hx9 k9) hs
theorem y_aload_n (C : SC p s m args meth c R i D tA cst b) (hl : lv_has ls (m_lc i) (ml cst b lv)) {len : Nat} {k : Fin 4} (hd : decode (m_m i).2.2.1 pc = .ok (.aload_n k, len)) (hn : len = 1) (hs : m_ex i pc (.aload_n k) lv st h = some (.inl S)) : PS p l e R s m args below meth c H locs cells slots Q i cst b h pc ls st S := by
  obtain ⟨hx, hb, hml, hown, hts, hlocks, hini, hfr, hlo9, hks, hc, hr⟩ := C
  subst hn
  exact x_ald hc hl (fun x hx9 k9 => lv_aload_n hx hb hd rfl hx9 k9) (fun hx9 k9 => lv_aload_nN hx hb hd rfl hx9 k9) hs
theorem y_aload (C : SC p s m args meth c R i D tA cst b) (hl : lv_has ls (m_lc i) (ml cst b lv)) {len : Nat} {k : Nat} (hd : decode (m_m i).2.2.1 pc = .ok (.aload k, len)) (hn : len = 2) (hs : m_ex i pc (.aload k) lv st h = some (.inl S)) : PS p l e R s m args below meth c H locs cells slots Q i cst b h pc ls st S := by
  obtain ⟨hx, hb, hml, hown, hts, hlocks, hini, hfr, hlo9, hks, hc, hr⟩ := C
  subst hn
  exact x_ald hc hl (fun x hx9 k9 => lv_aload hx hb hd hx9 k9) (fun hx9 k9 => lv_aloadN hx hb hd hx9 k9) hs
theorem y_istore_n (C : SC p s m args meth c R i D tA cst b) (hl : lv_has ls (m_lc i) (ml cst b lv)) {len : Nat} {k : Fin 4} (hd : decode (m_m i).2.2.1 pc = .ok (.istore_n k, len)) (hn : len = 1) (hs : m_ex i pc (.istore_n k) lv st h = some (.inl S)) : PS p l e R s m args below meth c H locs cells slots Q i cst b h pc ls st S := by
  obtain ⟨hx, hb, hml, hown, hts, hlocks, hini, hfr, hlo9, hks, hc, hr⟩ := C
  subst hn
  exact x_ist hc hl (fun x r hk k9 => lv_istore_n hx hb hd rfl hl hk (ml_s1 hc lv _ (.int x)) (fun ls9 h9 => k9 ls9 h9)) hs
theorem y_istore (C : SC p s m args meth c R i D tA cst b) (hl : lv_has ls (m_lc i) (ml cst b lv)) {len : Nat} {k : Nat} (hd : decode (m_m i).2.2.1 pc = .ok (.istore k, len)) (hn : len = 2) (hs : m_ex i pc (.istore k) lv st h = some (.inl S)) : PS p l e R s m args below meth c H locs cells slots Q i cst b h pc ls st S := by
  obtain ⟨hx, hb, hml, hown, hts, hlocks, hini, hfr, hlo9, hks, hc, hr⟩ := C
  subst hn
  exact x_ist hc hl (fun x r hk k9 => lv_istore hx hb hd hl hk (ml_s1 hc lv _ (.int x)) (fun ls9 h9 => k9 ls9 h9)) hs
theorem y_lstore_n (C : SC p s m args meth c R i D tA cst b) (hl : lv_has ls (m_lc i) (ml cst b lv)) {len : Nat} {k : Fin 4} (hd : decode (m_m i).2.2.1 pc = .ok (.lstore_n k, len)) (hn : len = 1) (hs : m_ex i pc (.lstore_n k) lv st h = some (.inl S)) : PS p l e R s m args below meth c H locs cells slots Q i cst b h pc ls st S := by
  obtain ⟨hx, hb, hml, hown, hts, hlocks, hini, hfr, hlo9, hks, hc, hr⟩ := C
  subst hn
  exact x_lst hc hl (fun x r hk k9 => lv_lstore_n hx hb hd rfl hl hk (ml_s2 hc lv _ (.long x)) (fun ls9 h9 => k9 ls9 h9)) hs
theorem y_lstore (C : SC p s m args meth c R i D tA cst b) (hl : lv_has ls (m_lc i) (ml cst b lv)) {len : Nat} {k : Nat} (hd : decode (m_m i).2.2.1 pc = .ok (.lstore k, len)) (hn : len = 2) (hs : m_ex i pc (.lstore k) lv st h = some (.inl S)) : PS p l e R s m args below meth c H locs cells slots Q i cst b h pc ls st S := by
  obtain ⟨hx, hb, hml, hown, hts, hlocks, hini, hfr, hlo9, hks, hc, hr⟩ := C
  subst hn
  exact x_lst hc hl (fun x r hk k9 => lv_lstore hx hb hd hl hk (ml_s2 hc lv _ (.long x)) (fun ls9 h9 => k9 ls9 h9)) hs
theorem y_astore_n (C : SC p s m args meth c R i D tA cst b) (hl : lv_has ls (m_lc i) (ml cst b lv)) {len : Nat} {k : Fin 4} (hd : decode (m_m i).2.2.1 pc = .ok (.astore_n k, len)) (hn : len = 1) (hs : m_ex i pc (.astore_n k) lv st h = some (.inl S)) : PS p l e R s m args below meth c H locs cells slots Q i cst b h pc ls st S := by
  obtain ⟨hx, hb, hml, hown, hts, hlocks, hini, hfr, hlo9, hks, hc, hr⟩ := C
  subst hn
  exact x_ast hc hl (fun x r lv9 hk h8 k9 => lv_astore_n hx hb hd rfl hl hk h8 (fun ls9 h9 => k9 ls9 h9)) (fun r lv9 hk h8 k9 => lv_astore_nN hx hb hd rfl hl hk h8 (fun ls9 h9 => k9 ls9 h9)) hs
theorem y_astore (C : SC p s m args meth c R i D tA cst b) (hl : lv_has ls (m_lc i) (ml cst b lv)) {len : Nat} {k : Nat} (hd : decode (m_m i).2.2.1 pc = .ok (.astore k, len)) (hn : len = 2) (hs : m_ex i pc (.astore k) lv st h = some (.inl S)) : PS p l e R s m args below meth c H locs cells slots Q i cst b h pc ls st S := by
  obtain ⟨hx, hb, hml, hown, hts, hlocks, hini, hfr, hlo9, hks, hc, hr⟩ := C
  subst hn
  exact x_ast hc hl (fun x r lv9 hk h8 k9 => lv_astore hx hb hd hl hk h8 (fun ls9 h9 => k9 ls9 h9)) (fun r lv9 hk h8 k9 => lv_astoreN hx hb hd hl hk h8 (fun ls9 h9 => k9 ls9 h9)) hs
theorem y_iinc (C : SC p s m args meth c R i D tA cst b) (hl : lv_has ls (m_lc i) (ml cst b lv)) {len : Nat} {k : Nat} {z : Int} (hd : decode (m_m i).2.2.1 pc = .ok (.iinc k z, len)) (hn : len = 3) (hs : m_ex i pc (.iinc k z) lv st h = some (.inl S)) : PS p l e R s m args below meth c H locs cells slots Q i cst b h pc ls st S := by
  obtain ⟨hx, hb, hml, hown, hts, hlocks, hini, hfr, hlo9, hks, hc, hr⟩ := C
  subst hn
  exact x_inc hc hl (fun x j hj hk k9 => lv_iinc hx hb hd hl hj rfl hk (ml_s1 hc lv _ (.int (x + Int32.ofInt z))) (fun ls9 h9 => k9 ls9 h9)) hs
theorem y_dup (C : SC p s m args meth c R i D tA cst b) (hl : lv_has ls (m_lc i) (ml cst b lv)) {len : Nat}  (hd : decode (m_m i).2.2.1 pc = .ok (.dup, len)) (hn : len = 1) (hs : m_ex i pc (.dup) lv st h = some (.inl S)) : PS p l e R s m args below meth c H locs cells slots Q i cst b h pc ls st S := by
  obtain ⟨hx, hb, hml, hown, hts, hlocks, hini, hfr, hlo9, hks, hc, hr⟩ := C
  subst hn
  simp only [m_ex] at hs
  split at hs
  · next v r =>
    split at hs
    · next hv =>
      cases hs
      exact ⟨rfl, fun k => lv_dup hx hb hd ((mv_cat hc v).trans hv) (k ls hl)⟩
    · cases hs
  · cases hs
theorem y_pop (C : SC p s m args meth c R i D tA cst b) (hl : lv_has ls (m_lc i) (ml cst b lv)) {len : Nat}  (hd : decode (m_m i).2.2.1 pc = .ok (.pop, len)) (hn : len = 1) (hs : m_ex i pc (.pop) lv st h = some (.inl S)) : PS p l e R s m args below meth c H locs cells slots Q i cst b h pc ls st S := by
  obtain ⟨hx, hb, hml, hown, hts, hlocks, hini, hfr, hlo9, hks, hc, hr⟩ := C
  subst hn
  simp only [m_ex] at hs
  split at hs
  · next v r =>
    split at hs
    · next hv =>
      cases hs
      exact ⟨rfl, fun k => lv_pop hx hb hd ((mv_cat hc v).trans hv) (k ls hl)⟩
    · cases hs
  · cases hs
theorem y_pop2 (C : SC p s m args meth c R i D tA cst b) (hl : lv_has ls (m_lc i) (ml cst b lv)) {len : Nat}  (hd : decode (m_m i).2.2.1 pc = .ok (.pop2, len)) (hn : len = 1) (hs : m_ex i pc (.pop2) lv st h = some (.inl S)) : PS p l e R s m args below meth c H locs cells slots Q i cst b h pc ls st S := by
  obtain ⟨hx, hb, hml, hown, hts, hlocks, hini, hfr, hlo9, hks, hc, hr⟩ := C
  subst hn
  simp only [m_ex] at hs
  split at hs
  · next v r =>
    split at hs
    · next hv =>
      cases hs
      exact ⟨rfl, fun k => lv_pop2_2 hx hb hd ((mv_cat hc v).trans hv) (k ls hl)⟩
    · cases hs
  · cases hs
theorem y_dup2 (C : SC p s m args meth c R i D tA cst b) (hl : lv_has ls (m_lc i) (ml cst b lv)) {len : Nat}  (hd : decode (m_m i).2.2.1 pc = .ok (.dup2, len)) (hn : len = 1) (hs : m_ex i pc (.dup2) lv st h = some (.inl S)) : PS p l e R s m args below meth c H locs cells slots Q i cst b h pc ls st S := by
  obtain ⟨hx, hb, hml, hown, hts, hlocks, hini, hfr, hlo9, hks, hc, hr⟩ := C
  subst hn
  simp only [m_ex] at hs
  split at hs
  · next v w r =>
    split at hs
    · next hv =>
      cases hs
      exact ⟨rfl, fun k => lv_dup2_11 hx hb hd ((mv_cat hc v).trans hv.1) ((mv_cat hc w).trans hv.2) (k ls hl)⟩
    · cases hs
  · cases hs
theorem y_goto (C : SC p s m args meth c R i D tA cst b) (hl : lv_has ls (m_lc i) (ml cst b lv)) {len : Nat} {off : Int} (hd : decode (m_m i).2.2.1 pc = .ok (.goto off, len)) (hn : len = 3) (hs : m_ex i pc (.goto off) lv st h = some (.inl S)) : PS p l e R s m args below meth c H locs cells slots Q i cst b h pc ls st S := by
  obtain ⟨hx, hb, hml, hown, hts, hlocks, hini, hfr, hlo9, hks, hc, hr⟩ := C
  subst hn
  exact x_tg hl (fun tgt ht k => lv_goto hx hb hd ht k) hs
theorem y_icmp_eq (C : SC p s m args meth c R i D tA cst b) (hl : lv_has ls (m_lc i) (ml cst b lv)) {len : Nat} {off : Int} (hd : decode (m_m i).2.2.1 pc = .ok (.if_icmp .eq off, len)) (hn : len = 3) (hs : m_ex i pc (.if_icmp .eq off) lv st h = some (.inl S)) : PS p l e R s m args below meth c H locs cells slots Q i cst b h pc ls st S := by
  obtain ⟨hx, hb, hml, hown, hts, hlocks, hini, hfr, hlo9, hks, hc, hr⟩ := C
  subst hn
  simp only [m_ex] at hs
  split at hs
  · next y x r =>
    exact x_br (A := x = y) (B := ¬ x = y) hl (fun h9 => of_decide_eq_true h9) (fun h9 => of_decide_eq_false h9) (fun tgt ht h8 k => lv_icmp_eq hx hb hd ht (fun _ => k) (fun h9 => absurd h8 h9)) (fun tgt ht h8 k => lv_icmp_eq hx hb hd ht (fun h9 => absurd h9 h8) (fun _ => k)) hs
  · cases hs
theorem y_if_eq (C : SC p s m args meth c R i D tA cst b) (hl : lv_has ls (m_lc i) (ml cst b lv)) {len : Nat} {off : Int} (hd : decode (m_m i).2.2.1 pc = .ok (.ifCond .eq off, len)) (hn : len = 3) (hs : m_ex i pc (.ifCond .eq off) lv st h = some (.inl S)) : PS p l e R s m args below meth c H locs cells slots Q i cst b h pc ls st S := by
  obtain ⟨hx, hb, hml, hown, hts, hlocks, hini, hfr, hlo9, hks, hc, hr⟩ := C
  subst hn
  simp only [m_ex] at hs
  split at hs
  · next x r =>
    exact x_br (A := x = 0) (B := ¬ x = 0) hl (fun h9 => of_decide_eq_true h9) (fun h9 => of_decide_eq_false h9) (fun tgt ht h8 k => lv_if_eq hx hb hd ht (fun _ => k) (fun h9 => absurd h8 h9)) (fun tgt ht h8 k => lv_if_eq hx hb hd ht (fun h9 => absurd h9 h8) (fun _ => k)) hs
  · cases hs
theorem y_icmp_ne (C : SC p s m args meth c R i D tA cst b) (hl : lv_has ls (m_lc i) (ml cst b lv)) {len : Nat} {off : Int} (hd : decode (m_m i).2.2.1 pc = .ok (.if_icmp .ne off, len)) (hn : len = 3) (hs : m_ex i pc (.if_icmp .ne off) lv st h = some (.inl S)) : PS p l e R s m args below meth c H locs cells slots Q i cst b h pc ls st S := by
  obtain ⟨hx, hb, hml, hown, hts, hlocks, hini, hfr, hlo9, hks, hc, hr⟩ := C
  subst hn
  simp only [m_ex] at hs
  split at hs
  · next y x r =>
    exact x_br (A := ¬ x = y) (B := x = y) hl (fun h9 => by simpa [m_cmp] using h9) (fun h9 => by simpa [m_cmp] using h9) (fun tgt ht h8 k => lv_icmp_ne hx hb hd ht (fun _ => k) (fun h9 => absurd h9 h8)) (fun tgt ht h8 k => lv_icmp_ne hx hb hd ht (fun h9 => absurd h8 h9) (fun _ => k)) hs
  · cases hs
theorem y_if_ne (C : SC p s m args meth c R i D tA cst b) (hl : lv_has ls (m_lc i) (ml cst b lv)) {len : Nat} {off : Int} (hd : decode (m_m i).2.2.1 pc = .ok (.ifCond .ne off, len)) (hn : len = 3) (hs : m_ex i pc (.ifCond .ne off) lv st h = some (.inl S)) : PS p l e R s m args below meth c H locs cells slots Q i cst b h pc ls st S := by
  obtain ⟨hx, hb, hml, hown, hts, hlocks, hini, hfr, hlo9, hks, hc, hr⟩ := C
  subst hn
  simp only [m_ex] at hs
  split at hs
  · next x r =>
    exact x_br (A := ¬ x = 0) (B := x = 0) hl (fun h9 => by simpa [m_cmp] using h9) (fun h9 => by simpa [m_cmp] using h9) (fun tgt ht h8 k => lv_if_ne hx hb hd ht (fun _ => k) (fun h9 => absurd h9 h8)) (fun tgt ht h8 k => lv_if_ne hx hb hd ht (fun h9 => absurd h8 h9) (fun _ => k)) hs
  · cases hs
theorem y_icmp_lt (C : SC p s m args meth c R i D tA cst b) (hl : lv_has ls (m_lc i) (ml cst b lv)) {len : Nat} {off : Int} (hd : decode (m_m i).2.2.1 pc = .ok (.if_icmp .lt off, len)) (hn : len = 3) (hs : m_ex i pc (.if_icmp .lt off) lv st h = some (.inl S)) : PS p l e R s m args below meth c H locs cells slots Q i cst b h pc ls st S := by
  obtain ⟨hx, hb, hml, hown, hts, hlocks, hini, hfr, hlo9, hks, hc, hr⟩ := C
  subst hn
  simp only [m_ex] at hs
  split at hs
  · next y x r =>
    exact x_br (A := x < y) (B := ¬ x < y) hl (fun h9 => of_decide_eq_true h9) (fun h9 => of_decide_eq_false h9) (fun tgt ht h8 k => lv_icmp_lt hx hb hd ht (fun _ => k) (fun h9 => absurd h8 h9)) (fun tgt ht h8 k => lv_icmp_lt hx hb hd ht (fun h9 => absurd h9 h8) (fun _ => k)) hs
  · cases hs
theorem y_if_lt (C : SC p s m args meth c R i D tA cst b) (hl : lv_has ls (m_lc i) (ml cst b lv)) {len : Nat} {off : Int} (hd : decode (m_m i).2.2.1 pc = .ok (.ifCond .lt off, len)) (hn : len = 3) (hs : m_ex i pc (.ifCond .lt off) lv st h = some (.inl S)) : PS p l e R s m args below meth c H locs cells slots Q i cst b h pc ls st S := by
  obtain ⟨hx, hb, hml, hown, hts, hlocks, hini, hfr, hlo9, hks, hc, hr⟩ := C
  subst hn
  simp only [m_ex] at hs
  split at hs
  · next x r =>
    exact x_br (A := x < 0) (B := ¬ x < 0) hl (fun h9 => of_decide_eq_true h9) (fun h9 => of_decide_eq_false h9) (fun tgt ht h8 k => lv_if_lt hx hb hd ht (fun _ => k) (fun h9 => absurd h8 h9)) (fun tgt ht h8 k => lv_if_lt hx hb hd ht (fun h9 => absurd h9 h8) (fun _ => k)) hs
  · cases hs
theorem y_icmp_ge (C : SC p s m args meth c R i D tA cst b) (hl : lv_has ls (m_lc i) (ml cst b lv)) {len : Nat} {off : Int} (hd : decode (m_m i).2.2.1 pc = .ok (.if_icmp .ge off, len)) (hn : len = 3) (hs : m_ex i pc (.if_icmp .ge off) lv st h = some (.inl S)) : PS p l e R s m args below meth c H locs cells slots Q i cst b h pc ls st S := by
  obtain ⟨hx, hb, hml, hown, hts, hlocks, hini, hfr, hlo9, hks, hc, hr⟩ := C
  subst hn
  simp only [m_ex] at hs
  split at hs
  · next y x r =>
    exact x_br (A := y ≤ x) (B := ¬ y ≤ x) hl (fun h9 => of_decide_eq_true h9) (fun h9 => of_decide_eq_false h9) (fun tgt ht h8 k => lv_icmp_ge hx hb hd ht (fun _ => k) (fun h9 => absurd h8 h9)) (fun tgt ht h8 k => lv_icmp_ge hx hb hd ht (fun h9 => absurd h9 h8) (fun _ => k)) hs
  · cases hs
theorem y_if_ge (C : SC p s m args meth c R i D tA cst b) (hl : lv_has ls (m_lc i) (ml cst b lv)) {len : Nat} {off : Int} (hd : decode (m_m i).2.2.1 pc = .ok (.ifCond .ge off, len)) (hn : len = 3) (hs : m_ex i pc (.ifCond .ge off) lv st h = some (.inl S)) : PS p l e R s m args below meth c H locs cells slots Q i cst b h pc ls st S := by
  obtain ⟨hx, hb, hml, hown, hts, hlocks, hini, hfr, hlo9, hks, hc, hr⟩ := C
  subst hn
  simp only [m_ex] at hs
  split at hs
  · next x r =>
    exact x_br (A := 0 ≤ x) (B := ¬ 0 ≤ x) hl (fun h9 => of_decide_eq_true h9) (fun h9 => of_decide_eq_false h9) (fun tgt ht h8 k => lv_if_ge hx hb hd ht (fun _ => k) (fun h9 => absurd h8 h9)) (fun tgt ht h8 k => lv_if_ge hx hb hd ht (fun h9 => absurd h9 h8) (fun _ => k)) hs
  · cases hs
theorem y_icmp_gt (C : SC p s m args meth c R i D tA cst b) (hl : lv_has ls (m_lc i) (ml cst b lv)) {len : Nat} {off : Int} (hd : decode (m_m i).2.2.1 pc = .ok (.if_icmp .gt off, len)) (hn : len = 3) (hs : m_ex i pc (.if_icmp .gt off) lv st h = some (.inl S)) : PS p l e R s m args below meth c H locs cells slots Q i cst b h pc ls st S := by
  obtain ⟨hx, hb, hml, hown, hts, hlocks, hini, hfr, hlo9, hks, hc, hr⟩ := C
  subst hn
  simp only [m_ex] at hs
  split at hs
  · next y x r =>
    exact x_br (A := y < x) (B := ¬ y < x) hl (fun h9 => of_decide_eq_true h9) (fun h9 => of_decide_eq_false h9) (fun tgt ht h8 k => lv_icmp_gt hx hb hd ht (fun _ => k) (fun h9 => absurd h8 h9)) (fun tgt ht h8 k => lv_icmp_gt hx hb hd ht (fun h9 => absurd h9 h8) (fun _ => k)) hs
  · cases hs
theorem y_if_gt (C : SC p s m args meth c R i D tA cst b) (hl : lv_has ls (m_lc i) (ml cst b lv)) {len : Nat} {off : Int} (hd : decode (m_m i).2.2.1 pc = .ok (.ifCond .gt off, len)) (hn : len = 3) (hs : m_ex i pc (.ifCond .gt off) lv st h = some (.inl S)) : PS p l e R s m args below meth c H locs cells slots Q i cst b h pc ls st S := by
  obtain ⟨hx, hb, hml, hown, hts, hlocks, hini, hfr, hlo9, hks, hc, hr⟩ := C
  subst hn
  simp only [m_ex] at hs
  split at hs
  · next x r =>
    exact x_br (A := 0 < x) (B := ¬ 0 < x) hl (fun h9 => of_decide_eq_true h9) (fun h9 => of_decide_eq_false h9) (fun tgt ht h8 k => lv_if_gt hx hb hd ht (fun _ => k) (fun h9 => absurd h8 h9)) (fun tgt ht h8 k => lv_if_gt hx hb hd ht (fun h9 => absurd h9 h8) (fun _ => k)) hs
  · cases hs
theorem y_icmp_le (C : SC p s m args meth c R i D tA cst b) (hl : lv_has ls (m_lc i) (ml cst b lv)) {len : Nat} {off : Int} (hd : decode (m_m i).2.2.1 pc = .ok (.if_icmp .le off, len)) (hn : len = 3) (hs : m_ex i pc (.if_icmp .le off) lv st h = some (.inl S)) : PS p l e R s m args below meth c H locs cells slots Q i cst b h pc ls st S := by
  obtain ⟨hx, hb, hml, hown, hts, hlocks, hini, hfr, hlo9, hks, hc, hr⟩ := C
  subst hn
  simp only [m_ex] at hs
  split at hs
  · next y x r =>
    exact x_br (A := x ≤ y) (B := ¬ x ≤ y) hl (fun h9 => of_decide_eq_true h9) (fun h9 => of_decide_eq_false h9) (fun tgt ht h8 k => lv_icmp_le hx hb hd ht (fun _ => k) (fun h9 => absurd h8 h9)) (fun tgt ht h8 k => lv_icmp_le hx hb hd ht (fun h9 => absurd h9 h8) (fun _ => k)) hs
  · cases hs
theorem y_if_le (C : SC p s m args meth c R i D tA cst b) (hl : lv_has ls (m_lc i) (ml cst b lv)) {len : Nat} {off : Int} (hd : decode (m_m i).2.2.1 pc = .ok (.ifCond .le off, len)) (hn : len = 3) (hs : m_ex i pc (.ifCond .le off) lv st h = some (.inl S)) : PS p l e R s m args below meth c H locs cells slots Q i cst b h pc ls st S := by
  obtain ⟨hx, hb, hml, hown, hts, hlocks, hini, hfr, hlo9, hks, hc, hr⟩ := C
  subst hn
  simp only [m_ex] at hs
  split at hs
  · next x r =>
    exact x_br (A := x ≤ 0) (B := ¬ x ≤ 0) hl (fun h9 => of_decide_eq_true h9) (fun h9 => of_decide_eq_false h9) (fun tgt ht h8 k => lv_if_le hx hb hd ht (fun _ => k) (fun h9 => absurd h8 h9)) (fun tgt ht h8 k => lv_if_le hx hb hd ht (fun h9 => absurd h9 h8) (fun _ => k)) hs
  · cases hs
theorem y_ifnull (C : SC p s m args meth c R i D tA cst b) (hl : lv_has ls (m_lc i) (ml cst b lv)) {len : Nat} {off : Int} (hd : decode (m_m i).2.2.1 pc = .ok (.ifnull off, len)) (hn : len = 3) (hs : m_ex i pc (.ifnull off) lv st h = some (.inl S)) : PS p l e R s m args below meth c H locs cells slots Q i cst b h pc ls st S := by
  obtain ⟨hx, hb, hml, hown, hts, hlocks, hini, hfr, hlo9, hks, hc, hr⟩ := C
  subst hn
  simp only [m_ex] at hs
  split at hs
  · next a r =>
    split at hs
    · next ha =>
      subst ha
      exact x_tg hl (fun tgt ht k => lv_ifnullN hx hb hd ht k) hs
    · split at hs
      · next h16 =>
        cases hs
        refine ⟨rfl, fun k => ?_⟩
        show W p l e R s m args below meth c H locs cells slots Q (F0 m pc ls (mv cst b (.ref a) :: r.map (mv cst b)))
        rw [mv_dyn h16]
        exact lv_ifnull hx hb hd (k ls hl)
      · cases hs
  · cases hs
theorem y_ifnonnull (C : SC p s m args meth c R i D tA cst b) (hl : lv_has ls (m_lc i) (ml cst b lv)) {len : Nat} {off : Int} (hd : decode (m_m i).2.2.1 pc = .ok (.ifnonnull off, len)) (hn : len = 3) (hs : m_ex i pc (.ifnonnull off) lv st h = some (.inl S)) : PS p l e R s m args below meth c H locs cells slots Q i cst b h pc ls st S := by
  obtain ⟨hx, hb, hml, hown, hts, hlocks, hini, hfr, hlo9, hks, hc, hr⟩ := C
  subst hn
  simp only [m_ex] at hs
  split at hs
  · next a r =>
    split at hs
    · next ha =>
      subst ha
      cases hs
      exact ⟨rfl, fun k => lv_ifnonnullN hx hb hd (k ls hl)⟩
    · split at hs
      · next h16 =>
        refine x_tg hl (fun tgt ht k => ?_) hs
        show W p l e R s m args below meth c H locs cells slots Q (F0 m pc ls (mv cst b (.ref a) :: r.map (mv cst b)))
        rw [mv_dyn h16]
        exact lv_ifnonnull hx hb hd ht k
      · cases hs
  · cases hs
theorem y_tsw (C : SC p s m args meth c R i D tA cst b) (hl : lv_has ls (m_lc i) (ml cst b lv)) {len : Nat} {d lo hi : Int} {offs : Array Int} (hd : decode (m_m i).2.2.1 pc = .ok (.tableswitch d lo hi offs, len)) (hs : m_ex i pc (.tableswitch d lo hi offs) lv st h = some (.inl S)) : PS p l e R s m args below meth c H locs cells slots Q i cst b h pc ls st S := by
  obtain ⟨hx, hb, hml, hown, hts, hlocks, hini, hfr, hlo9, hks, hc, hr⟩ := C
  simp only [m_ex] at hs
  split at hs
  · next x r =>
    split at hs
    · next h1 => exact x_tg hl (fun tgt ht k => lv_tableOut hx hb hd h1 ht k) hs
    · next h1 =>
      split at hs
      · next o ho => exact x_tg hl (fun tgt ht k => lv_tableIn hx hb hd (fun q => h1 (Or.inl q)) (fun q => h1 (Or.inr q)) ho ht k) hs
      · cases hs
  · cases hs
end SIM
