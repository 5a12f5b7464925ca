-- WHAT TOUCHES THE HEAP
theorem m_own_ok (i : Nat) : m_own[m_ow i]? = some (m_m i).2.1.cls := by
  rcases Nat.lt_or_ge i 292 with h | h
  · have h2 : (List.range 292).all (fun i => decide (m_own[m_ow i]? = some (m_m i).2.1.cls)) = true := by decide +kernel
    exact of_decide_eq_true (List.all_eq_true.mp h2 i (List.mem_range.mpr h))
  · have e1 : m_ow i = 0 := by
      unfold m_ow
      rw [List.getD_eq_getElem?_getD, List.getElem?_eq_none (by have : m_ownL.length = 292 := by decide +kernel
                                                                omega)]
      rfl
    have e2 : m_m i = m_d0 := by
      unfold m_m
      rw [List.getD_eq_getElem?_getD, List.getElem?_eq_none (by have : m_meths.length = 292 := by decide +kernel
                                                                omega)]
      rfl
    rw [e1, e2]
    rfl
theorem m_flw {i idx nest c k : Nat} (h : m_fl i idx = some (nest, c, k)) : m_fw (m_m i).2.1.cls (idx, nest, c, k) ∈ lw_tbl ∧ (c = 39 ∧ nest = 0 ∧ k < 2 ∨ c < 10 ∧ k < m_nf c ∧ nest < 2) := by
  have h1 := m_lk_mem h
  cases hl : m_flk[m_ow i]? with
  | none =>
    rw [List.getD_eq_getElem?_getD, hl] at h1
    cases h1
  | some l =>
    rw [List.getD_eq_getElem?_getD, hl] at h1
    refine ⟨m_KF _ _ _ (m_own_ok i) hl _ (List.mem_map.mpr ⟨_, h1, rfl⟩), ?_⟩
    have h2 := m_kfok l (List.mem_of_getElem? hl) _ h1
    exact of_decide_eq_true h2
theorem m_mlw {i idx nest j : Nat} (h : m_ml i idx = some (nest, j)) : m_mw (m_m i).2.1.cls (idx, nest, j) ∈ lw_tbl := by
  have h1 := m_lk_mem h
  cases hl : m_mlk[m_ow i]? with
  | none =>
    rw [List.getD_eq_getElem?_getD, hl] at h1
    cases h1
  | some l =>
    rw [List.getD_eq_getElem?_getD, hl] at h1
    exact m_KL _ _ _ (m_own_ok i) hl _ (List.mem_map.mpr ⟨_, h1, rfl⟩)
theorem m_ccw {i idx c : Nat} (h : m_cc i idx = some c) : m_clw (m_m i).2.1.cls (idx, c) ∈ lw_tbl := by
  have h1 := m_lk_mem h
  cases hl : m_clk[m_ow i]? with
  | none =>
    rw [List.getD_eq_getElem?_getD, hl] at h1
    cases h1
  | some l =>
    rw [List.getD_eq_getElem?_getD, hl] at h1
    exact m_KQ _ _ _ (m_own_ok i) hl _ (List.mem_map.mpr ⟨_, h1, rfl⟩)
theorem m_icw' {i idx : Nat} {x : Int32} (h : m_ic i idx = some x) : m_icw (m_m i).2.1.cls (idx, x) ∈ lw_tbl := by
  have h1 := m_lk_mem h
  cases hl : m_ick[m_ow i]? with
  | none =>
    rw [List.getD_eq_getElem?_getD, hl] at h1
    cases h1
  | some l =>
    rw [List.getD_eq_getElem?_getD, hl] at h1
    exact m_KI _ _ _ (m_own_ok i) hl _ (List.mem_map.mpr ⟨_, h1, rfl⟩)
theorem m_jcw {i idx : Nat} {x : Int64} (h : m_jc i idx = some x) : m_lcw (m_m i).2.1.cls (idx, x) ∈ lw_tbl := by
  have h1 := m_lk_mem h
  cases hl : m_lck[m_ow i]? with
  | none =>
    rw [List.getD_eq_getElem?_getD, hl] at h1
    cases h1
  | some l =>
    rw [List.getD_eq_getElem?_getD, hl] at h1
    exact m_KJ _ _ _ (m_own_ok i) hl _ (List.mem_map.mpr ⟨_, h1, rfl⟩)
section SIMH
variable {p : Program} {l : Launch} {e : Env} {R : Room} {s : State} {m : MethodId} {args : Array Value} {below : List Frame} {meth : Method} {c : Code} {Q : State → Prop} {i : Nat} {D : va_G} {tA : Nat → ClassId} {cst : Nat → Value} {b : Nat}
variable {H : Heap} {locs : List Loc} {cells slots : Nat} {pc : Nat} {ls : Array Slot} {lv : List (Nat × Value)} {st : List Value} {h : MH} {S : MS}
theorem z_obP {ci a : Nat} {q : vw_C} {V : Nat → Value} (hq : m_cl[ci]? = some q) (hO : t_OB a (D.1 ci) q.2.2 (D.2 ci) H V) : va_P D m_cl [(a, .inr (ci, (List.range q.2.2).map V))] H := by
  intro k x hk
  have h0 : k < 1 := (List.getElem?_eq_some_iff.mp hk).1
  rw [show k = 0 by omega] at hk
  cases hk
  refine ⟨q, hq, hO.to fun j hj => ?_⟩
  show V j = ((List.range q.2.2).map V).getD j .null
  rw [List.getD_eq_getElem?_getD, List.getElem?_map, List.getElem?_range hj]
  rfl
theorem z_get (C : SC p s m args meth c R i D tA cst b) (hR : HR D tA cst b s h H) (hl : lv_has ls (m_lc i) (ml cst b lv)) {idx : Nat} (hd : decode (m_m i).2.2.1 pc = .ok (.getfield idx, 3)) (hs : e_get i idx pc lv st h = some (.inl S)) : PS p l e R s m args below meth c H locs cells slots Q i cst b h pc ls st S := by
  obtain ⟨hx, hb, hml, hown, hts, hlocks, hini, hfr, hlo9, hks, hc, hr⟩ := C
  unfold e_get at hs
  split at hs
  · next a r nest ci k hf =>
    split at hs
    · next hk9 =>
      obtain ⟨hw, hcase⟩ := m_flw hf
      have key : W p l e R s m args below meth c H locs cells slots Q (F0 m (pc + 3) ls (m_fv cst b h a ci k :: r.map (mv cst b))) → W p l e R s m args below meth c H locs cells slots Q (F0 m pc ls (mv cst b (.ref a) :: r.map (mv cst b))) := by
        intro kk
        rcases hcase with ⟨h39, h0, hk2⟩ | ⟨hc10, hkN, hn2⟩
        · subst h39
          subst h0
          have ha : a < 16 := by
            rcases Nat.lt_or_ge a 16 with h1 | h1
            · exact h1
            · rcases hR.cell h1 (by omega) with ⟨q1, q2, q3⟩ | ⟨q1, q2, q3⟩
              · omega
              · rw [hk9] at q1
                exact absurd q1 (by decide)
          have hcst := hR.2.2.2.1 a ha
          unfold m_cst at hcst
          rw [hk9] at hcst
          obtain ⟨r9, e1, e2, e3, e4, e5⟩ := hcst
          have ha0 : a ≠ 0 := by
            intro e9
            rw [e9] at hk9
            have := hR.2.2.2.2.2
            omega
          rw [mv_cst ha0 ha, e1]
          match k, hk2 with
          | 0, _ =>
            obtain ⟨cf, kf, fi, f, cell, f1, f2, f3, f4, f5, -⟩ := e5
            exact W.getf hx hb hown (hts _ (m_tgI hw rfl)) f1 f2 f3 f4 f5 rfl rfl hd kk
          | 1, _ =>
            obtain ⟨cf, kf, fi, f, cell, f1, f2, f3, f4, f5, -⟩ := e4
            exact W.getf hx hb hown (hts _ (m_tgI hw rfl)) f1 f2 f3 f4 f5 rfl rfl hd kk
        · obtain ⟨ha, hO⟩ := hR.obj hk9 hc10
          obtain ⟨q, hq, hN, hin, -, -, -, -, -, hT⟩ := m_clf ci hc10
          rw [hN] at hO hkN
          have hv : ((List.range q.2.2).map (m_fv cst b h a ci))[k]? = some (m_fv cst b h a ci k) := by
            rw [List.getElem?_map, List.getElem?_range hkN]
            rfl
          have hw2 := hw
          unfold m_fw at hw2
          rw [show m_cl[((idx, nest, ci, k) : Nat × Nat × Nat × Nat).2.2.1]? = some q from hq] at hw2
          rw [mv_dyn ha]
          match nest, hn2 with
          | 0, _ => exact va_get (D := D) (ci := ci) (C := q.1) (T := q.2.1) (N := q.2.2) hx hb hts hin hown hks.1 (z_obP hq hO) 0 rfl hq k hkN (hts _ (m_tgI hw2 rfl)) (fun x h9 => by rw [hT k hkN] at h9; exact h9) hv hd kk
          | 1, _ => exact va_getN (D := D) (ci := ci) (C := q.1) (T := q.2.1) (N := q.2.2) hx hb hts hin hown hks.1 (z_obP hq hO) 0 rfl hq k hkN (va_Nw.use rfl (hks.2.1 _ hw2 rfl)) (fun x h9 => by rw [hT k hkN] at h9; exact h9) hv hd kk
      split at hs
      · next ht =>
        cases hs
        exact ⟨rfl, fun k9 => key (by have := k9 ls hl; unfold m_fv; rw [ht]; exact this)⟩
      · next ht =>
        cases hs
        exact ⟨rfl, fun k9 => key (by have := k9 ls hl; unfold m_fv; rw [ht]; exact this)⟩
      · next h0 h1 =>
        cases hs
        exact ⟨rfl, fun k9 => key (by
          have h9 := k9 ls hl
          have e9 : m_fv cst b h a ci k = mv cst b (.ref (h_r h a k)) := by
            unfold m_fv
            split
            · next q => exact absurd q h0
            · next q => exact absurd q h1
            · rfl
          rw [e9]
          exact h9)⟩
    · cases hs
  · cases hs
theorem z_putW (C : SC p s m args meth c R i D tA cst b) {idx nest ci k a : Nat} {V : Nat → Value} {v : Value} {rest : List Value} (hf : m_fl i idx = some (nest, ci, k)) (hc10 : ci < 10) (hO : t_OB a (D.1 ci) (m_nf ci) (D.2 ci) H V)
    (hv : ∀ ty : FieldType, ((m_ty ci k).1 = 0 → ty = .int) → ((m_ty ci k).1 = 1 → ty = .long) → ((m_ty ci k).1 ≠ 0 → (m_ty ci k).1 ≠ 1 → m_rr (some ty) = true) → narrow ty v = v ∧ fits ty v = true)
    (hfin : (m_ty ci k).2 = true → nest = 0 ∧ m_kind i = 2 ∧ m_cnm ci = (m_m i).2.1.cls) (hd : decode (m_m i).2.2.1 pc = .ok (.putfield idx, 3))
    (kk : ∀ (H' : Heap) (z : Nat), t_OB a (D.1 ci) (m_nf ci) (D.2 ci) H' (updV V k v) → H'.size = H.size → (∀ q, q ≠ a → H'[q]? = H[q]?) → W p l e R s m args below meth c H' (locs ++ [⟨a, z⟩]) cells slots Q (F0 m (pc + 3) ls rest)) : W p l e R s m args below meth c H locs cells slots Q (F0 m pc ls (v :: .ref a :: rest)) := by
  obtain ⟨hx, hb, hml, hown, hts, hlocks, hini, hfr, hlo9, hks, hc, hr⟩ := C
  obtain ⟨hw, hcase⟩ := m_flw hf
  have hkN : k < m_nf ci := by rcases hcase with ⟨h39, -⟩ | ⟨-, h, -⟩ <;> omega
  have hn2 : nest < 2 := by rcases hcase with ⟨h39, -⟩ | ⟨-, -, h⟩ <;> omega
  obtain ⟨q, hq, hN, hin, hnm, ⟨ty, hty, hty2⟩, hfn, -, -, hT⟩ := m_clf ci hc10
  rw [hN] at hO hkN
  rw [hN] at kk
  have hw2 := hw
  unfold m_fw at hw2
  rw [show m_cl[((idx, nest, ci, k) : Nat × Nat × Nat × Nat).2.2.1]? = some q from hq] at hw2
  obtain ⟨hnar, hfit⟩ := hv (ty k) (hty2 k hkN).1 (hty2 k hkN).2.1 (hty2 k hkN).2.2
  have hap := va_apart (own := (m_m i).2.1.cls) (args := args) (C := q.1) (T := q.2.1) (N := q.2.2) (ci := ci) hts hin ty hty hnm hks.1 hq
  obtain ⟨cell, q1, q2, q3, q4⟩ := hO
  obtain ⟨hS, hfc, kC, hkC, hkind⟩ := hks.1.1 ci _ hq
  obtain ⟨cf, kf, fi, f, hi, hsl⟩ := hS k hkN
  have hlay := hts _ (hin _ (u_in_lay hkN))
  have hst := (u_facts hfc hkC (u_lays hts hin hkN) hi).1
  have hsame : ∀ x, s.fieldFound? (q.2.1 k).1 (q.2.1 k).2.1 (q.2.1 k).2.2.1 = some x → s.fieldFound? q.1 (q.2.1 k).2.1 (q.2.1 k).2.2.1 = some x := fun x h9 => by rw [hT k hkN] at h9; exact h9
  by_cases hfi : (m_ty ci k).2 = true
  · obtain ⟨hn0, hk2, hcn⟩ := hfin hfi
    subst hn0
    have hq1 : q.1 = (m_m i).2.1.cls := by
      rw [← hcn]
      unfold m_cnm
      rw [hq]
    have hfF : (q.2.1 k).2.2.2 = true := (hfn k hkN).trans hfi
    unfold u_lay at hlay
    rw [if_pos hfF] at hlay
    have hcf : m.cls = cf := by
      obtain ⟨_, _, c', _, _, _, -, -, hf', -, -, -, hown2, -⟩ := Cond.laysFinal_spec hlay
      have e1 : c' = cf := by have := hi.symm.trans hf'; simp at this; exact this.1.symm
      rw [hT k hkN, hq1] at hown2
      rw [← e1]; exact Option.some.inj (hown.symm.trans hown2)
    have h6 := u_fits hfc hkC hkind (Or.inr hlay) hi (hty k hkN) hnar hfit
    refine W.putFinK hx hb hown (hts _ (m_tgI hw2 rfl)) (hsame _ hi) hst hcf (hini hk2) (by rw [q2]; exact h6) q1 q3 (by rw [hsl]; exact k2_hasslot (q4 k hkN)) rfl rfl hd fun H' e1 e2 e3 => ?_
    rw [hsl] at e1
    exact kk H' _ ⟨_, e1, q2, q3, t_set q4 hap hkN v⟩ e2 e3
  · have hfF : (q.2.1 k).2.2.2 = false := (hfn k hkN).trans (by simpa using hfi)
    unfold u_lay at hlay
    rw [if_neg (by rw [hfF]; decide)] at hlay
    have h6 := u_store hfc hkC hkind hlay hi (hty k hkN) hnar hfit
    match nest, hn2 with
    | 0, _ =>
      refine W.putK hx hb (f := f) ⟨hown, hts _ (m_tgI hw2 rfl), ⟨_, _, _, hsame _ hi⟩, hst⟩ (by rw [q2]; exact h6) q1 q3 (by rw [hsl]; exact k2_hasslot (q4 k hkN)) rfl rfl hd fun H' e1 e2 e3 => ?_
      rw [hsl] at e1
      exact kk H' _ ⟨_, e1, q2, q3, t_set q4 hap hkN v⟩ e2 e3
    | 1, _ =>
      refine va_WputK hx hb (f := f) hown (va_Nw.use rfl (hks.2.1 _ hw2 rfl)) (hsame _ hi) hst (by rw [q2]; exact h6) q1 q3 (by rw [hsl]; exact k2_hasslot (q4 k hkN)) rfl rfl hd fun H' e1 e2 e3 => ?_
      rw [hsl] at e1
      exact kk H' _ ⟨_, e1, q2, q3, t_set q4 hap hkN v⟩ e2 e3
-- what a step that changes the heap, but makes nothing, owes
def HS (p : Program) (l : Launch) (e : Env) (R : Room) (s : State) (m : MethodId) (args : Array Value) (below : List Frame) (meth : Method) (c : Code) (H : Heap) (locs : List Loc) (cells slots : Nat) (Q : State → Prop) (i : Nat) (D : va_G) (tA : Nat → ClassId) (cst : Nat → Value) (b : Nat) (h : MH) (pc : Nat) (ls : Array Slot) (st : List Value) (S : MS) : Prop :=
  (h_n S.2.2.2 = h_n h ∧ h_z S.2.2.2 = h_z h) ∧ ((∀ H' locs' ls', HR D tA cst b s S.2.2.2 H' → (∀ q ∈ locs', b ≤ q.base) → lv_has ls' (m_lc i) (ml cst b S.2.1) → W p l e R s m args below meth c H' locs' cells slots Q (F0 m S.1 ls' (S.2.2.1.map (mv cst b)))) → W p l e R s m args below meth c H locs cells slots Q (F0 m pc ls (st.map (mv cst b))))
theorem z_loc {a z : Nat} (hlo : ∀ q ∈ locs, b ≤ q.base) (ha : b ≤ a) : ∀ q ∈ locs ++ [(⟨a, z⟩ : Loc)], b ≤ q.base := by
  intro q hq
  rcases List.mem_append.mp hq with h1 | h1
  · exact hlo q h1
  · rw [List.mem_singleton.mp h1]
    exact ha
theorem z_put (C : SC p s m args meth c R i D tA cst b) (hR : HR D tA cst b s h H) (hlo : ∀ q ∈ locs, b ≤ q.base) (hl : lv_has ls (m_lc i) (ml cst b lv)) {idx : Nat} (hd : decode (m_m i).2.2.1 pc = .ok (.putfield idx, 3)) (hs : e_put i idx pc lv st h = some (.inl S)) : HS p l e R s m args below meth c H locs cells slots Q i D tA cst b h pc ls st S := by
  unfold e_put at hs
  split at hs
  · next x a r nest ci k hf =>
    split at hs
    · next hk =>
      obtain ⟨hk9, hc10, hkN, hty⟩ := hk
      cases hs
      obtain ⟨ha, hO⟩ := hR.obj hk9 hc10
      refine ⟨⟨rfl, rfl⟩, fun K => ?_⟩
      show W p l e R s m args below meth c H locs cells slots Q (F0 m pc ls (.int x :: mv cst b (.ref a) :: r.map (mv cst b)))
      rw [mv_dyn ha]
      refine z_putW C hf hc10 hO (v := .int x) (fun ty h0 _ _ => by rw [h0 (by rw [hty])]; exact ⟨rfl, rfl⟩) (fun q => by rw [hty] at q; cases q) hd (fun H' z e1 e2 e3 => ?_)
      refine K H' _ ls (hR.upd ha rfl rfl (fun y hy => ⟨if_neg hy, rfl, rfl⟩) e2 e3 (Or.inl ?_)) (z_loc hlo (Nat.le_add_right b _)) hl
      have hk8 : (h_k (h_si h a k x) a).1 = ci + 1 := hk9
      rw [hk8]
      refine ⟨by omega, by omega, e1.to (fun j hj => ?_)⟩
      show updV (m_fv cst b h a ci) k (.int x) j = m_fv cst b (h_si h a k x) a ci j
      unfold updV m_fv h_si h_i h_l h_r
      by_cases e9 : j = k
      · subst e9
        simp [hty, m_u]
      · simp [e9, m_u]
    · cases hs
  · next x a r nest ci k hf =>
    split at hs
    · next hk =>
      obtain ⟨hk9, hc10, hkN, hty⟩ := hk
      cases hs
      obtain ⟨ha, hO⟩ := hR.obj hk9 hc10
      refine ⟨⟨rfl, rfl⟩, fun K => ?_⟩
      show W p l e R s m args below meth c H locs cells slots Q (F0 m pc ls (.long x :: mv cst b (.ref a) :: r.map (mv cst b)))
      rw [mv_dyn ha]
      refine z_putW C hf hc10 hO (v := .long x) (fun ty _ h0 _ => by rw [h0 (by rw [hty])]; exact ⟨rfl, rfl⟩) (fun q => by rw [hty] at q; cases q) hd (fun H' z e1 e2 e3 => ?_)
      refine K H' _ ls (hR.upd ha rfl rfl (fun y hy => ⟨rfl, if_neg hy, rfl⟩) e2 e3 (Or.inl ?_)) (z_loc hlo (Nat.le_add_right b _)) hl
      have hk8 : (h_k (h_sl h a k x) a).1 = ci + 1 := hk9
      rw [hk8]
      refine ⟨by omega, by omega, e1.to (fun j hj => ?_)⟩
      show updV (m_fv cst b h a ci) k (.long x) j = m_fv cst b (h_sl h a k x) a ci j
      unfold updV m_fv h_sl h_i h_l h_r
      by_cases e9 : j = k
      · subst e9
        simp [hty, m_u]
      · simp [e9, m_u]
    · cases hs
  · next x a r nest ci k hf =>
    split at hs
    · next hk =>
      obtain ⟨hk9, hc10, hkN, hty, hfi⟩ := hk
      cases hs
      obtain ⟨ha, hO⟩ := hR.obj hk9 hc10
      refine ⟨⟨rfl, rfl⟩, fun K => ?_⟩
      show W p l e R s m args below meth c H locs cells slots Q (F0 m pc ls (mv cst b (.ref x) :: mv cst b (.ref a) :: r.map (mv cst b)))
      rw [mv_dyn ha]
      have hcok := C.2.2.2.2.2.2.2.2.2.2.1
      refine z_putW C hf hc10 hO (v := mv cst b (.ref x)) (fun ty _ _ h0 => ?_) (fun q => ⟨(hfi q).1, (hfi q).2.1, (hfi q).2.2.2⟩) hd (fun H' z e1 e2 e3 => ?_)
      · have h9 := h0 (by rw [hty]; decide) (by rw [hty]; decide)
        rcases mv_ref (b := b) hcok x with q | ⟨y, q⟩ <;> rw [q] <;> cases ty <;> first | exact ⟨rfl, rfl⟩ | exact absurd h9 (by decide)
      · refine K H' _ ls (hR.upd ha rfl rfl (fun y hy => ⟨rfl, rfl, if_neg hy⟩) e2 e3 (Or.inl ?_)) (z_loc hlo (Nat.le_add_right b _)) hl
        have hk8 : (h_k (h_sr h a k x) a).1 = ci + 1 := hk9
        rw [hk8]
        refine ⟨by omega, by omega, e1.to (fun j hj => ?_)⟩
        show updV (m_fv cst b h a ci) k (mv cst b (.ref x)) j = m_fv cst b (h_sr h a k x) a ci j
        unfold updV m_fv h_sr h_i h_l h_r
        by_cases e9 : j = k
        · subst e9
          simp [hty, m_u]
        · simp [e9, m_u]
    · cases hs
  · cases hs
theorem m_okk_or {k : Nat} (h : m_okk k = true) : k = 20 ∨ k = 21 ∨ k = 22 ∨ k = 25 ∨ k = 30 ∨ k = 31 ∨ k = 32 ∨ k = 33 := by
  simp [m_okk] at h
  omega
theorem m_inS {j : Int32} {n : Nat} (h : m_in j n = true) : ¬ j < 0 ∧ j.toNatClampNeg < n := by
  simp only [m_in, Bool.and_eq_true, decide_eq_true_eq] at h
  exact h
theorem m_inA {j : Int32} {n : Nat} {cI : ClassId} {f : Nat → Value} (h : m_in j n = true) : ¬ (j < 0 ∨ (arrV cI n f).slots.size ≤ j.toNatClampNeg) := by
  obtain ⟨h1, h2⟩ := m_inS h
  rw [arrV_size]
  rintro (q | q)
  · exact h1 q
  · omega
theorem z_iald (C : SC p s m args meth c R i D tA cst b) (hR : HR D tA cst b s h H) (hl : lv_has ls (m_lc i) (ml cst b lv)) (hd : decode (m_m i).2.2.1 pc = .ok (.iaload, 1)) (hs : e_iald 20 20 pc lv st h = some (.inl S)) : PS p l e R s m args below meth c H locs cells slots Q i cst b h pc ls st S := by
  obtain ⟨hx, hb, hml, hown, hts, hlocks, hini, hfr, hlo9, hks, hc, hr⟩ := C
  unfold e_iald at hs
  split at hs
  · next j a r =>
    split at hs
    · next hk =>
      obtain ⟨hk, hin⟩ := hk
      have hk : (h_k h a).1 = 20 := hk.elim id id
      cases hs
      refine ⟨rfl, fun K => ?_⟩
      have K := K ls hl
      show W p l e R s m args below meth c H locs cells slots Q (F0 m pc ls (.int j :: mv cst b (.ref a) :: r.map (mv cst b)))
      rcases (Nat.lt_or_ge a 16).symm with ha | ha
      · obtain ⟨-, hcell, -⟩ := hR.arr ha (by omega)
        rw [hk] at hcell
        rw [mv_dyn ha]
        exact W.iald (v := .int (h_i h a j.toNatClampNeg)) hx hb hcell ((hks.1.2 0 _ rfl).1 _ _) (fun q => by cases q) (m_inA hin) (by rw [arrV_read _ _ (m_inS hin).2]; rfl) rfl rfl hd K
      · have hq := hR.2.2.2.1 a (by omega)
        unfold m_cst at hq
        rw [hk] at hq
        obtain ⟨r9, cell, q1, q2, q3, q4, q5, q6, q7, q8⟩ := hq
        have ha0 : a ≠ 0 := by
          intro e9
          rw [e9] at hk
          have := hR.2.2.2.2.2
          omega
        rw [mv_cst ha0 (by omega), q1]
        exact W.iald (v := .int (h_i h a j.toNatClampNeg)) hx hb q3 q4 q5 (by rintro (q | q); exact (m_inS hin).1 q; have := (m_inS hin).2; omega) (q8 _ (m_inS hin).2) rfl rfl hd K
    · cases hs
  · cases hs
theorem z_bald (C : SC p s m args meth c R i D tA cst b) (hR : HR D tA cst b s h H) (hl : lv_has ls (m_lc i) (ml cst b lv)) (hd : decode (m_m i).2.2.1 pc = .ok (.baload, 1)) (hs : e_iald 21 22 pc lv st h = some (.inl S)) : PS p l e R s m args below meth c H locs cells slots Q i cst b h pc ls st S := by
  obtain ⟨hx, hb, hml, hown, hts, hlocks, hini, hfr, hlo9, hks, hc, hr⟩ := C
  unfold e_iald at hs
  split at hs
  · next j a r =>
    split at hs
    · next hk =>
      obtain ⟨hk, hin⟩ := hk
      cases hs
      refine ⟨rfl, fun K => ?_⟩
      have K := K ls hl
      show W p l e R s m args below meth c H locs cells slots Q (F0 m pc ls (.int j :: mv cst b (.ref a) :: r.map (mv cst b)))
      rcases (Nat.lt_or_ge a 16).symm with ha | ha
      · obtain ⟨-, hcell, -⟩ := hR.arr ha (by omega)
        rw [mv_dyn ha]
        rcases hk with hk | hk
        · rw [hk] at hcell
          exact W.bald (v := .int (h_i h a j.toNatClampNeg)) hx hb hcell ((hks.1.2 1 _ rfl).1 _ _) (fun q => by cases q) (m_inA hin) (by rw [arrV_read _ _ (m_inS hin).2]; rfl) rfl rfl hd K
        · rw [hk] at hcell
          exact W.zald (v := .int (h_i h a j.toNatClampNeg)) hx hb hcell ((hks.1.2 2 _ rfl).1 _ _) (fun q => by cases q) (m_inA hin) (by rw [arrV_read _ _ (m_inS hin).2]; rfl) rfl rfl hd K
      · have hq := hR.2.2.2.1 a (by omega)
        unfold m_cst at hq
        have ha0 : a ≠ 0 := by
          intro e9
          rw [e9] at hk
          have := hR.2.2.2.2.2
          omega
        rcases hk with hk | hk
        · rw [hk] at hq
          obtain ⟨r9, cell, q1, q2, q3, q4, q5, q6, q7, q8⟩ := hq
          rw [mv_cst ha0 (by omega), q1]
          exact W.bald (v := .int (h_i h a j.toNatClampNeg)) hx hb q3 q4 q5 (by rintro (q | q); exact (m_inS hin).1 q; have := (m_inS hin).2; omega) (q8 _ (m_inS hin).2) rfl rfl hd K
        · rw [hk] at hq
          exact hq.elim
    · cases hs
  · cases hs
theorem z_dyn {a : Nat} (hR : HR D tA cst b s h H) (hk : 25 ≤ (h_k h a).1) (hk2 : (h_k h a).1 < 40) : 16 ≤ a := by
  rcases Nat.lt_or_ge a 16 with h1 | h1
  · have hq := hR.2.2.2.1 a h1
    unfold m_cst at hq
    generalize (h_k h a).1 = k at hk hk2 hq
    match k, hk, hk2, hq with
    | 0, hk, _, _ => omega
    | 20, hk, _, _ => omega
    | 21, hk, _, _ => omega
    | 40, _, hk2, _ => omega
    | k, _, _, hq =>
      split at hq
      · omega
      · omega
      · omega
      · omega
      · exact hq.elim
  · exact h1
theorem z_lald (C : SC p s m args meth c R i D tA cst b) (hR : HR D tA cst b s h H) (hl : lv_has ls (m_lc i) (ml cst b lv)) (hd : decode (m_m i).2.2.1 pc = .ok (.laload, 1)) (hs : e_lald pc lv st h = some (.inl S)) : PS p l e R s m args below meth c H locs cells slots Q i cst b h pc ls st S := by
  obtain ⟨hx, hb, hml, hown, hts, hlocks, hini, hfr, hlo9, hks, hc, hr⟩ := C
  unfold e_lald at hs
  split at hs
  · next j a r =>
    split at hs
    · next hk =>
      obtain ⟨hk, hin⟩ := hk
      cases hs
      refine ⟨rfl, fun K => ?_⟩
      have K := K ls hl
      show W p l e R s m args below meth c H locs cells slots Q (F0 m pc ls (.int j :: mv cst b (.ref a) :: r.map (mv cst b)))
      have ha : 16 ≤ a := z_dyn hR (by omega) (by omega)
      obtain ⟨-, hcell, -⟩ := hR.arr ha (by omega)
      rw [hk] at hcell
      rw [mv_dyn ha]
      exact W.lald (v := .long (h_l h a j.toNatClampNeg)) hx hb hcell ((hks.1.2 3 _ rfl).1 _ _) (fun q => by cases q) (m_inA hin) (by rw [arrV_read _ _ (m_inS hin).2]; rfl) rfl rfl hd K
    · cases hs
  · cases hs
theorem z_aald (C : SC p s m args meth c R i D tA cst b) (hR : HR D tA cst b s h H) (hl : lv_has ls (m_lc i) (ml cst b lv)) (hd : decode (m_m i).2.2.1 pc = .ok (.aaload, 1)) (hs : e_aald pc lv st h = some (.inl S)) : PS p l e R s m args below meth c H locs cells slots Q i cst b h pc ls st S := by
  obtain ⟨hx, hb, hml, hown, hts, hlocks, hini, hfr, hlo9, hks, hc, hr⟩ := C
  unfold e_aald at hs
  split at hs
  · next j a r =>
    split at hs
    · next hk =>
      obtain ⟨hk, hin⟩ := hk
      cases hs
      refine ⟨rfl, fun K => ?_⟩
      have K := K ls hl
      show W p l e R s m args below meth c H locs cells slots Q (F0 m pc ls (.int j :: mv cst b (.ref a) :: r.map (mv cst b)))
      have ha : 16 ≤ a := z_dyn hR (by omega) (by omega)
      obtain ⟨-, hcell, -⟩ := hR.arr ha (by omega)
      rw [mv_dyn ha]
      have hk4 : (h_k h a).1 = 30 ∨ (h_k h a).1 = 31 ∨ (h_k h a).1 = 32 ∨ (h_k h a).1 = 33 := by omega
      rcases hk4 with e9 | e9 | e9 | e9
      · rw [e9] at hcell
        exact W.aald (v := mv cst b (.ref (h_r h a j.toNatClampNeg))) (ty := .object RX6) hx hb hcell ((hks.1.2 4 _ rfl).1 _ _) rfl (fun q => by cases q) (m_inA hin) (by rw [arrV_read _ _ (m_inS hin).2]; rfl) rfl rfl hd K
      · rw [e9] at hcell
        exact W.aald (v := mv cst b (.ref (h_r h a j.toNatClampNeg))) (ty := .object RX3) hx hb hcell ((hks.1.2 5 _ rfl).1 _ _) rfl (fun q => by cases q) (m_inA hin) (by rw [arrV_read _ _ (m_inS hin).2]; rfl) rfl rfl hd K
      · rw [e9] at hcell
        exact W.aald (v := mv cst b (.ref (h_r h a j.toNatClampNeg))) (ty := .object RX0) hx hb hcell ((hks.1.2 6 _ rfl).1 _ _) rfl (fun q => by cases q) (m_inA hin) (by rw [arrV_read _ _ (m_inS hin).2]; rfl) rfl rfl hd K
      · rw [e9] at hcell
        exact W.aald (v := mv cst b (.ref (h_r h a j.toNatClampNeg))) (ty := .array .int) hx hb hcell ((hks.1.2 7 _ rfl).1 _ _) rfl (fun q => by cases q) (m_inA hin) (by rw [arrV_read _ _ (m_inS hin).2]; rfl) rfl rfl hd K
    · cases hs
  · cases hs
theorem z_isarr (hks : KS D tA cst s) {k n : Nat} {f : Nat → Value} (h : m_okk k = true) : ∃ ty, s.isArrayOf (arrV (tA k) n f) ty := by
  rcases m_okk_or h with e9 | e9 | e9 | e9 | e9 | e9 | e9 | e9 <;> subst e9
  · exact ⟨_, (hks.1.2 0 _ rfl).1 _ _⟩
  · exact ⟨_, (hks.1.2 1 _ rfl).1 _ _⟩
  · exact ⟨_, (hks.1.2 2 _ rfl).1 _ _⟩
  · exact ⟨_, (hks.1.2 3 _ rfl).1 _ _⟩
  · exact ⟨_, (hks.1.2 4 _ rfl).1 _ _⟩
  · exact ⟨_, (hks.1.2 5 _ rfl).1 _ _⟩
  · exact ⟨_, (hks.1.2 6 _ rfl).1 _ _⟩
  · exact ⟨_, (hks.1.2 7 _ rfl).1 _ _⟩
theorem z_alen (C : SC p s m args meth c R i D tA cst b) (hR : HR D tA cst b s h H) (hl : lv_has ls (m_lc i) (ml cst b lv)) (hd : decode (m_m i).2.2.1 pc = .ok (.arraylength, 1)) (hs : e_alen pc lv st h = some (.inl S)) : PS p l e R s m args below meth c H locs cells slots Q i cst b h pc ls st S := by
  obtain ⟨hx, hb, hml, hown, hts, hlocks, hini, hfr, hlo9, hks, hc, hr⟩ := C
  unfold e_alen at hs
  split at hs
  · next a r =>
    split at hs
    · next hk =>
      cases hs
      refine ⟨rfl, fun K => ?_⟩
      have K := K ls hl
      show W p l e R s m args below meth c H locs cells slots Q (F0 m pc ls (mv cst b (.ref a) :: r.map (mv cst b)))
      rcases (Nat.lt_or_ge a 16).symm with ha | ha
      · obtain ⟨ho, hcell, -⟩ := hR.arr ha (by omega)
        obtain ⟨ty, hty⟩ := z_isarr hks ho
        rw [mv_dyn ha]
        exact W.alen (n := Int32.ofNat (h_k h a).2) hx hb hcell hty (by rw [arrV_size]) rfl rfl hd K
      · have hq := hR.2.2.2.1 a (by omega)
        have ha0 : a ≠ 0 := by
          intro e9
          rw [e9] at hk
          have := hR.2.2.2.2.2
          omega
        rw [mv_cst ha0 (by omega)]
        unfold m_cst at hq
        split at hq
        · omega
        · obtain ⟨r9, cell, q1, q2, q3, q4, q5, q6, q7, q8⟩ := hq
          rw [q1]
          exact W.alen (n := Int32.ofNat (h_k h a).2) hx hb q3 q4 q7 rfl rfl hd K
        · obtain ⟨r9, cell, q1, q2, q3, q4, q5, q6, q7, q8⟩ := hq
          rw [q1]
          exact W.alen (n := Int32.ofNat (h_k h a).2) hx hb q3 q4 q7 rfl rfl hd K
        · omega
        · exact hq.elim
    · cases hs
  · cases hs
-- behind a store into a row
theorem z_st {a j : Nat} {v : Value} {h' : MH} {H' : Heap} (hR : HR D tA cst b s h H) (ha : 16 ≤ a) (hk : 20 ≤ (h_k h a).1) (e1 : H'[b + (a - 16)]? = some ((arrV (tA (h_k h a).1) (h_k h a).2 (m_av cst b h a (h_k h a).1)).setSlot j v)) (e2 : H'.size = H.size) (e3 : ∀ q, q ≠ b + (a - 16) → H'[q]? = H[q]?)
    (hn : h_n h' = h_n h) (hkk : h_k h' = h_k h) (ho : ∀ x, x ≠ a → h_i h' x = h_i h x ∧ h_l h' x = h_l h x ∧ h_r h' x = h_r h x) (hv : ∀ z, updV (m_av cst b h a (h_k h a).1) j v z = m_av cst b h' a (h_k h a).1 z) (hf : (h_k h a).1 = 21 → ∀ z, fits .byte (.int (h_i h' a z)) = true) : HR D tA cst b s h' H' := by
  obtain ⟨ho9, -, -⟩ := hR.arr ha hk
  refine hR.upd ha hn hkk ho e2 e3 (Or.inr ⟨by rw [hkk]; exact ho9, ?_, by rw [hkk]; exact hf⟩)
  rw [hkk, e1, arrV_store, show updV (m_av cst b h a (h_k h a).1) j v = m_av cst b h' a (h_k h a).1 from funext hv]
theorem z_iast (C : SC p s m args meth c R i D tA cst b) (hR : HR D tA cst b s h H) (hlo : ∀ q ∈ locs, b ≤ q.base) (hl : lv_has ls (m_lc i) (ml cst b lv)) (hd : decode (m_m i).2.2.1 pc = .ok (.iastore, 1)) (hs : e_iast pc lv st h = some (.inl S)) : HS p l e R s m args below meth c H locs cells slots Q i D tA cst b h pc ls st S := by
  obtain ⟨hx, hb, hml, hown, hts, hlocks, hini, hfr, hlo9, hks, hc, hr⟩ := C
  unfold e_iast at hs
  split at hs
  · next x j a r =>
    split at hs
    · next hk =>
      obtain ⟨ha, hk, hin⟩ := hk
      cases hs
      refine ⟨⟨rfl, rfl⟩, fun K => ?_⟩
      show W p l e R s m args below meth c H locs cells slots Q (F0 m pc ls (.int x :: .int j :: mv cst b (.ref a) :: r.map (mv cst b)))
      obtain ⟨-, hcell, -⟩ := hR.arr ha (by omega)
      rw [mv_dyn ha]
      refine W.iast hx hb hcell (by rw [hk]; exact (hks.1.2 0 _ rfl).1 _ _) (fun q => by cases q) (m_inA hin) rfl rfl hd (fun H' e1 e2 e3 => ?_)
      refine K H' _ ls (z_st hR ha (by omega) e1 e2 e3 rfl rfl (fun y hy => ⟨if_neg hy, rfl, rfl⟩) (fun z => ?_) (fun q => by omega)) (z_loc hlo (Nat.le_add_right b _)) hl
      rw [hk]
      unfold updV m_av h_si h_i
      by_cases e9 : z = j.toNatClampNeg
      · simp [e9, m_u]
      · simp [e9, m_u]
    · cases hs
  · cases hs
theorem z_last (C : SC p s m args meth c R i D tA cst b) (hR : HR D tA cst b s h H) (hlo : ∀ q ∈ locs, b ≤ q.base) (hl : lv_has ls (m_lc i) (ml cst b lv)) (hd : decode (m_m i).2.2.1 pc = .ok (.lastore, 1)) (hs : e_last pc lv st h = some (.inl S)) : HS p l e R s m args below meth c H locs cells slots Q i D tA cst b h pc ls st S := by
  obtain ⟨hx, hb, hml, hown, hts, hlocks, hini, hfr, hlo9, hks, hc, hr⟩ := C
  unfold e_last at hs
  split at hs
  · next x j a r =>
    split at hs
    · next hk =>
      obtain ⟨ha, hk, hin⟩ := hk
      cases hs
      refine ⟨⟨rfl, rfl⟩, fun K => ?_⟩
      show W p l e R s m args below meth c H locs cells slots Q (F0 m pc ls (.long x :: .int j :: mv cst b (.ref a) :: r.map (mv cst b)))
      obtain ⟨-, hcell, -⟩ := hR.arr ha (by omega)
      rw [mv_dyn ha]
      refine W.last hx hb hcell (by rw [hk]; exact (hks.1.2 3 _ rfl).1 _ _) (fun q => by cases q) (m_inA hin) rfl rfl hd (fun H' e1 e2 e3 => ?_)
      refine K H' _ ls (z_st hR ha (by omega) e1 e2 e3 rfl rfl (fun y hy => ⟨rfl, if_neg hy, rfl⟩) (fun z => ?_) (fun q => by omega)) (z_loc hlo (Nat.le_add_right b _)) hl
      rw [hk]
      unfold updV m_av h_sl h_l
      by_cases e9 : z = j.toNatClampNeg
      · simp [e9, m_u]
      · simp [e9, m_u]
    · cases hs
  · cases hs
theorem z_fitb (x : Int32) : fits .byte (.int x.toInt8.toInt32) = true := pk_fb x
theorem z_bast (C : SC p s m args meth c R i D tA cst b) (hR : HR D tA cst b s h H) (hlo : ∀ q ∈ locs, b ≤ q.base) (hl : lv_has ls (m_lc i) (ml cst b lv)) (hd : decode (m_m i).2.2.1 pc = .ok (.bastore, 1)) (hs : e_bast pc lv st h = some (.inl S)) : HS p l e R s m args below meth c H locs cells slots Q i D tA cst b h pc ls st S := by
  obtain ⟨hx, hb, hml, hown, hts, hlocks, hini, hfr, hlo9, hks, hc, hr⟩ := C
  unfold e_bast at hs
  split at hs
  · next x j a r =>
    split at hs
    · next hk =>
      obtain ⟨ha, hk, hin⟩ := hk
      cases hs
      refine ⟨⟨rfl, rfl⟩, fun K => ?_⟩
      show W p l e R s m args below meth c H locs cells slots Q (F0 m pc ls (.int x :: .int j :: mv cst b (.ref a) :: r.map (mv cst b)))
      obtain ⟨-, hcell, hfit⟩ := hR.arr ha (by omega)
      rw [mv_dyn ha]
      refine W.bast hx hb hcell (by rw [hk]; exact (hks.1.2 1 _ rfl).1 _ _) (fun q => by cases q) (m_inA hin) rfl rfl hd (fun H' e1 e2 e3 => ?_)
      refine K H' _ ls (z_st hR ha (by omega) e1 e2 e3 rfl rfl (fun y hy => ⟨if_neg hy, rfl, rfl⟩) (fun z => ?_) (fun _ z => ?_)) (z_loc hlo (Nat.le_add_right b _)) hl
      · rw [hk, narrow_byte]
        unfold updV m_av h_si h_i
        by_cases e9 : z = j.toNatClampNeg
        · simp [e9, m_u]
        · simp [e9, m_u]
      · have h7 := hfit hk z
        unfold h_si h_i at *
        by_cases e9 : z = j.toNatClampNeg
        · simp only [m_u, e9, if_true]
          exact z_fitb x
        · simpa [m_u, e9] using h7
    · split at hs
      · next hk =>
        obtain ⟨ha, hk, hin⟩ := hk
        cases hs
        refine ⟨⟨rfl, rfl⟩, fun K => ?_⟩
        show W p l e R s m args below meth c H locs cells slots Q (F0 m pc ls (.int x :: .int j :: mv cst b (.ref a) :: r.map (mv cst b)))
        obtain ⟨-, hcell, -⟩ := hR.arr ha (by omega)
        rw [mv_dyn ha]
        refine W.zast hx hb hcell (by rw [hk]; exact (hks.1.2 2 _ rfl).1 _ _) (fun q => by cases q) (m_inA hin) rfl rfl hd (fun H' e1 e2 e3 => ?_)
        refine K H' _ ls (z_st hR ha (by omega) e1 e2 e3 rfl rfl (fun y hy => ⟨if_neg hy, rfl, rfl⟩) (fun z => ?_) (fun q => by omega)) (z_loc hlo (Nat.le_add_right b _)) hl
        rw [hk]
        unfold updV m_av h_si h_i
        by_cases e9 : z = j.toNatClampNeg
        · simp [e9, m_u, narrow]
        · simp [e9, m_u]
      · cases hs
  · cases hs
theorem z_objc {x : Nat} {ci : Nat} {r : vw_C} (hks : KS D tA cst s) (hR : HR D tA cst b s h H) (hk : (h_k h x).1 = ci + 1) (hc : ci < 10) (hq : m_cl[ci]? = some r) : ∃ (cv : Cell) (kC : Class), H[b + (x - 16)]? = some cv ∧ (∀ q, cv.vm ≠ .statics q) ∧ s.vm.classes[cv.cls]? = some kC ∧ s.vm.assignable cv.cls (D.1 ci) = true ∧ s.vm.classes[D.1 ci]? = some kC ∧ s.vm.findClass r.1 = some cv.cls ∧ cv.vm.isStatics = false := by
  obtain ⟨ha, cell, g1, g2, g3, -⟩ := hR.obj hk hc
  have hcls := (hks.1.1 ci r hq).2
  obtain ⟨kC, hkC, -⟩ := hcls.2
  exact ⟨cell, kC, g1, (fun q h => by rw [g3] at h; cases h), (by rw [g2]; exact hkC), (by rw [g2]; exact va_assign hcls), hkC, (by rw [g2]; exact hcls.1), (by rw [g3]; rfl)⟩
theorem z_aast (C : SC p s m args meth c R i D tA cst b) (hR : HR D tA cst b s h H) (hlo : ∀ q ∈ locs, b ≤ q.base) (hl : lv_has ls (m_lc i) (ml cst b lv)) (hd : decode (m_m i).2.2.1 pc = .ok (.aastore, 1)) (hs : e_aast pc lv st h = some (.inl S)) : HS p l e R s m args below meth c H locs cells slots Q i D tA cst b h pc ls st S := by
  obtain ⟨hx, hb, hml, hown, hts, hlocks, hini, hfr, hlo9, hks, hc, hr⟩ := C
  unfold e_aast at hs
  split at hs
  · next x j a r =>
    split at hs
    · next hk =>
      obtain ⟨ha, hk, hin, hx16, hkx⟩ := hk
      cases hs
      refine ⟨⟨rfl, rfl⟩, fun K => ?_⟩
      show W p l e R s m args below meth c H locs cells slots Q (F0 m pc ls (mv cst b (.ref x) :: .int j :: mv cst b (.ref a) :: r.map (mv cst b)))
      obtain ⟨-, hcell, -⟩ := hR.arr ha (by omega)
      rw [mv_dyn ha, mv_dyn hx16]
      have key : ∀ (t0 ci : Nat) (C9 : String) (r9 : vw_C), (m_tys tA)[t0]? = some (tA (h_k h a).1, .object C9) → m_cl[ci]? = some r9 → r9.1 = C9 → (h_k h x).1 = ci + 1 → ci < 10 → W p l e R s m args below meth c H locs cells slots Q (F0 m pc ls (.ref (b + (x - 16)) :: .int j :: .ref (b + (a - 16)) :: r.map (mv cst b))) := by
        intro t0 ci C9 r9 ht0 hq hr9 hkc hc10
        obtain ⟨cv, kC, g1, g2, g3, g4, g5, g6, -⟩ := z_objc hks hR hkc hc10 hq
        obtain ⟨kA, comp, k1, k2, k3, -⟩ := (hks.1.2 t0 _ ht0).2
        have hcomp : comp = D.1 ci := by
          have h7 := (hks.1.1 ci r9 hq).2.1
          rw [hr9] at h7
          exact Option.some.inj (k3.symm.trans h7)
        subst hcomp
        refine W.aast hx hb hcell (fun q h => by cases h) (fun h => by cases h) k1 k2 rfl g5 ⟨(m_inS hin).1, by rw [arrV_size]; exact (m_inS hin).2⟩ g1 g2 g3 g4 rfl rfl hd (fun H' e1 e2 e3 => ?_)
        refine K H' _ ls (z_st hR ha (by omega) e1 e2 e3 rfl rfl (fun y hy => ⟨rfl, rfl, if_neg hy⟩) (fun z => ?_) (fun q => by omega)) (z_loc hlo (Nat.le_add_right b _)) hl
        have n1 : ¬ (h_k h a).1 < 25 := by omega
        have n2 : ¬ (h_k h a).1 = 25 := by omega
        unfold updV m_av h_sr h_r
        by_cases e9 : z = j.toNatClampNeg
        · simp only [e9, m_u, n1, n2, if_true, if_false]
          exact (mv_dyn hx16).symm
        · simp [e9, m_u, n1, n2]
      have hk4 : (h_k h a).1 = 30 ∨ (h_k h a).1 = 31 ∨ (h_k h a).1 = 32 := by omega
      rcases hk4 with e9 | e9 | e9
      · rw [e9] at hkx
        exact key 4 6 RX6 (RX6, TX6, 6) (by rw [e9]; rfl) rfl rfl hkx (by omega)
      · rw [e9] at hkx
        exact key 5 3 RX3 (RX3, TX3, 14) (by rw [e9]; rfl) rfl rfl hkx (by omega)
      · rw [e9] at hkx
        exact key 6 0 RX0 (RX0, TX0, 3) (by rw [e9]; rfl) rfl rfl hkx (by omega)
    · cases hs
  · cases hs
end SIMH
