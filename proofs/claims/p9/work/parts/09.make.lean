-- WHAT MAKES CELLS, COPIES, READS WHAT STANDS STILL
section SIMN
variable {p : Program} {l : Launch} {e : Env} {R : Room} {s : State} {m : MethodId} {args : Array Value} {below : List Frame} {meth : Method} {c : Code} {Q : State → Prop} {i : Nat} {D : va_G} {tA : Nat → ClassId} {cst : Nat → Value} {b : Nat}
variable {H : Heap} {locs : List Loc} {cells slots : Nat} {pc : Nat} {ls : Array Slot} {lv : List (Nat × Value)} {st : List Value} {h : MH} {S : MS}
-- what any step owes
def GS (p : Program) (l : Launch) (e : Env) (R : Room) (s : State) (m : MethodId) (args : Array Value) (below : List Frame) (meth : Method) (c : Code) (H : Heap) (locs : List Loc) (cells slots : Nat) (Q : State → Prop) (i : Nat) (D : va_G) (tA : Nat → ClassId) (cst : Nat → Value) (b : Nat) (h : MH) (pc : Nat) (ls : Array Slot) (st : List Value) (S : MS) : Prop :=
  (h_n h ≤ h_n S.2.2.2 ∧ h_z h ≤ h_z S.2.2.2) ∧ (cells + (h_n S.2.2.2 - h_n h) ≤ R.cells → slots + (h_z S.2.2.2 - h_z h) ≤ R.slots → (∀ H' locs' ls', HR D tA cst b s S.2.2.2 H' → (∀ q ∈ locs', b ≤ q.base) → lv_has ls' (m_lc i) (ml cst b S.2.1) → W p l e R s m args below meth c H' locs' (cells + (h_n S.2.2.2 - h_n h)) (slots + (h_z S.2.2.2 - h_z h)) Q (F0 m S.1 ls' (S.2.2.1.map (mv cst b)))) → W p l e R s m args below meth c H locs cells slots Q (F0 m pc ls (st.map (mv cst b))))
theorem PS.gs (hR : HR D tA cst b s h H) (hlo : ∀ q ∈ locs, b ≤ q.base) (q : PS p l e R s m args below meth c H locs cells slots Q i cst b h pc ls st S) : GS p l e R s m args below meth c H locs cells slots Q i D tA cst b h pc ls st S := by
  obtain ⟨q1, q2⟩ := q
  unfold GS
  rw [q1]
  refine ⟨⟨Nat.le_refl _, Nat.le_refl _⟩, fun _ _ K => q2 fun ls' hl' => ?_⟩
  have := K H locs ls' hR hlo hl'
  rw [Nat.sub_self, Nat.sub_self] at this
  exact this
theorem HS.gs (q : HS p l e R s m args below meth c H locs cells slots Q i D tA cst b h pc ls st S) : GS p l e R s m args below meth c H locs cells slots Q i D tA cst b h pc ls st S := by
  obtain ⟨⟨q1, q3⟩, q2⟩ := q
  unfold GS
  rw [q1, q3]
  refine ⟨⟨Nat.le_refl _, Nat.le_refl _⟩, fun _ _ K => q2 fun H' locs' ls' a1 a2 a3 => ?_⟩
  have := K H' locs' ls' a1 a2 a3
  rw [Nat.sub_self, Nat.sub_self] at this
  exact this
theorem z_grow {k len sz : Nat} {H' : Heap} (hR : HR D tA cst b s h H) (hz : H'.size = H.size + 1) (ho : ∀ x, x < H.size → H'[x]? = H[x]?) (hc : m_cell D tA cst b (h_new h k len sz) (16 + h_n h) H') : HR D tA cst b s (h_new h k len sz) H' := by
  refine hR.grow 1 rfl (fun x hx => ?_) (fun x hx => ?_) hz ho (fun x h1 h2 => ?_)
  · have h9 : h_n (h_new h k len sz) = h_n h + 1 := rfl
    exact if_neg (show ¬ x = 16 + h.1.1 from fun q => by
      have : h_n h = h.1.1 := rfl
      omega)
  · have h9 : ¬ x = 16 + h.1.1 := fun q => by
      have : h_n h = h.1.1 := rfl
      omega
    exact ⟨if_neg h9, if_neg h9, if_neg h9⟩
  · have h9 : h_n (h_new h k len sz) = h_n h + 1 := rfl
    have e9 : x = 16 + h_n h := by omega
    rw [e9]
    exact hc
theorem z_newk {k len sz : Nat} : h_k (h_new h k len sz) (16 + h_n h) = (k, len) := if_pos rfl
theorem z_newi {k len sz : Nat} : h_i (h_new h k len sz) (16 + h_n h) = fun _ => 0 := if_pos rfl
theorem z_newl {k len sz : Nat} : h_l (h_new h k len sz) (16 + h_n h) = fun _ => 0 := if_pos rfl
theorem z_newr {k len sz : Nat} : h_r (h_new h k len sz) (16 + h_n h) = fun _ => 0 := if_pos rfl
theorem z_newrow {k len sz : Nat} {H' : Heap} {cA : ClassId} {v : Value} (hR : HR D tA cst b s h H) (hk : m_okk k = true) (hcA : cA = tA k) (hv : v = if k < 25 then .int 0 else if k = 25 then .long 0 else .null) (e1 : H'[H.size]? = some (arrV cA len (fun _ => v))) (hz : H'.size = H.size + 1) (ho : ∀ x, x < H.size → H'[x]? = H[x]?) : HR D tA cst b s (h_new h k len sz) H' := by
  refine z_grow hR hz ho (Or.inr ⟨by rw [z_newk]; exact hk, ?_, fun _ j => ?_⟩)
  · rw [z_newk, show b + (16 + h_n h - 16) = H.size by rw [hR.1]; omega, e1, hcA]
    have e9 : (fun _ : Nat => v) = m_av cst b (h_new h k len sz) (16 + h_n h) k := by
      funext j
      unfold m_av
      rw [z_newi, z_newl, z_newr, hv]
      rfl
    rw [e9]
  · rw [z_newi]
    rfl
theorem z_newst (hR : HR D tA cst b s h H) {a : Nat} (ha : a = H.size) : mv cst b (.ref (16 + h_n h)) = .ref a := by
  rw [mv_dyn (by omega), ha, hR.1, Nat.add_sub_cancel_left]
theorem z_newa (C : SC p s m args meth c R i D tA cst b) (hR : HR D tA cst b s h H) (hlo : ∀ q ∈ locs, b ≤ q.base) (hl : lv_has ls (m_lc i) (ml cst b lv)) {t : ArrayType} (hd : decode (m_m i).2.2.1 pc = .ok (.newarray t, 2)) (hs : e_newa t pc lv st h = some (.inl S)) : GS p l e R s m args below meth c H locs cells slots Q i D tA cst b h pc ls st S := by
  obtain ⟨hx, hb, hml, hown, hts, hlocks, hini, hfr, hlo9, hks, hc, hr⟩ := C
  unfold e_newa at hs
  split at hs
  · next n r =>
    split at hs
    · next hk =>
      obtain ⟨hk0, hn, hN⟩ := hk
      cases hs
      have f1 : h_n (h_new h (m_ak t) n.toNatClampNeg n.toNatClampNeg) - h_n h = 1 := by
        show h_n h + 1 - h_n h = 1
        omega
      have f2 : h_z (h_new h (m_ak t) n.toNatClampNeg n.toNatClampNeg) - h_z h = n.toNatClampNeg := by
        show h_z h + n.toNatClampNeg - h_z h = _
        omega
      refine ⟨⟨Nat.le_succ _, Nat.le_add_right _ _⟩, fun hc1 hs1 K => ?_⟩
      dsimp only at hc1 hs1 K
      rw [f1] at hc1
      rw [f2] at hs1
      rw [f1, f2] at K
      show W p l e R s m args below meth c H locs cells slots Q (F0 m pc ls (.int n :: r.map (mv cst b)))
      have fin : ∀ (H' : Heap) (cA : ClassId) (v : Value), m_okk (m_ak t) = true → cA = tA (m_ak t) → (v = if m_ak t < 25 then .int 0 else if m_ak t = 25 then .long 0 else .null) → H'[H.size]? = some (arrV cA n.toNatClampNeg (fun _ => v)) → H'.size = H.size + 1 → (∀ q, q < H.size → H'[q]? = H[q]?) → W p l e R s m args below meth c H' locs (cells + 1) (slots + n.toNatClampNeg) Q (F0 m (pc + 2) ls (.ref H.size :: r.map (mv cst b))) := by
        intro H' cA v g1 g2 g3 g4 g5 g6
        have K2 := K H' locs ls (z_newrow hR g1 g2 g3 g4 g5 g6) hlo hl
        rw [List.map_cons, z_newst hR rfl] at K2
        exact K2
      cases t with
      | int => exact va_newaK hx hb (hts _ (m_tgI (m_karr _ (List.mem_of_getElem? (i := 0) rfl)) rfl)) rfl hd rfl hn rfl (by show _ * 4 ≤ _; omega) hc1 hs1 rfl (fun H' cA e1 z1 o1 _ hNm => fin H' cA _ rfl (Option.some.inj (hNm.symm.trans (hks.1.2 0 _ rfl).2)) rfl e1 z1 o1)
      | byte => exact va_newaK hx hb (hts _ (m_tgI (m_karr _ (List.mem_of_getElem? (i := 1) rfl)) rfl)) rfl hd rfl hn rfl (by show _ * 1 ≤ _; omega) hc1 hs1 rfl (fun H' cA e1 z1 o1 _ hNm => fin H' cA _ rfl (Option.some.inj (hNm.symm.trans (hks.1.2 1 _ rfl).2)) rfl e1 z1 o1)
      | boolean => exact va_newaK hx hb (hts _ (m_tgI (m_karr _ (List.mem_of_getElem? (i := 2) rfl)) rfl)) rfl hd rfl hn rfl (by show _ * 1 ≤ _; omega) hc1 hs1 rfl (fun H' cA e1 z1 o1 _ hNm => fin H' cA _ rfl (Option.some.inj (hNm.symm.trans (hks.1.2 2 _ rfl).2)) rfl e1 z1 o1)
      | long => exact va_newaK hx hb (hts _ (m_tgI (m_karr _ (List.mem_of_getElem? (i := 3) rfl)) rfl)) rfl hd rfl hn rfl (by show _ * 8 ≤ _; omega) hc1 hs1 rfl (fun H' cA e1 z1 o1 _ hNm => fin H' cA _ rfl (Option.some.inj (hNm.symm.trans (hks.1.2 3 _ rfl).2)) rfl e1 z1 o1)
      | _ => exact absurd rfl hk0
    · cases hs
  · cases hs
theorem z_new (C : SC p s m args meth c R i D tA cst b) (hR : HR D tA cst b s h H) (hlo : ∀ q ∈ locs, b ≤ q.base) (hl : lv_has ls (m_lc i) (ml cst b lv)) {idx : Nat} (hd : decode (m_m i).2.2.1 pc = .ok (.new idx, 3)) (hs : e_new i idx pc lv st h = some (.inl S)) : GS p l e R s m args below meth c H locs cells slots Q i D tA cst b h pc ls st S := by
  obtain ⟨hx, hb, hml, hown, hts, hlocks, hini, hfr, hlo9, hks, hc, hr⟩ := C
  unfold e_new at hs
  split at hs
  · next ci hf =>
    split at hs
    · next hc10 =>
      cases hs
      obtain ⟨q, hq, hN, hin, -, ⟨ty, hty, hty2⟩, -, hinst, hinit, -⟩ := m_clf ci hc10
      have hw := m_ccw hf
      unfold m_clw m_cnm at hw
      rw [show m_cl[((idx, ci) : Nat × Nat).2]? = some q from hq] at hw
      have f1 : h_n (h_new h (ci + 1) (m_nf ci) (m_nf ci)) - h_n h = 1 := by
        show h_n h + 1 - h_n h = 1
        omega
      have f2 : h_z (h_new h (ci + 1) (m_nf ci) (m_nf ci)) - h_z h = m_nf ci := by
        show h_z h + m_nf ci - h_z h = _
        omega
      refine ⟨⟨Nat.le_succ _, Nat.le_add_right _ _⟩, fun hc1 hs1 K => ?_⟩
      dsimp only at hc1 hs1 K
      rw [f1] at hc1
      rw [f2, hN] at hs1
      rw [f1, f2] at K
      have hKn := hks.1.1 ci q hq
      refine W.newcK hx hb hown (hts _ (m_tgI hw rfl)) (hts _ hinst) (hts _ hinit) rfl hd hc1 hs1 hKn.2.1 rfl (fun H' kC hkC e1 z1 o1 => ?_)
      have hO := u_born ty hts hin hKn hkC e1 hty
      have K2 := K H' locs ls (z_grow hR z1 o1 (Or.inl ?_)) hlo hl
      · rw [List.map_cons, z_newst hR rfl] at K2
        rw [← hN]
        exact K2
      · rw [z_newk]
        refine ⟨Nat.succ_pos _, by show ci + 1 < 11; omega, ?_⟩
        show t_OB (b + (16 + h_n h - 16)) (D.1 ci) (m_nf ci) (D.2 ci) H' _
        rw [show b + (16 + h_n h - 16) = H.size by rw [hR.1]; omega, hN]
        refine hO.to (fun k hk => ?_)
        show defaultValue (ty k) = m_fv cst b (h_new h (ci + 1) (m_nf ci) (m_nf ci)) (16 + h_n h) ci k
        obtain ⟨t1, t2, t3⟩ := hty2 k hk
        unfold m_fv
        rw [z_newi, z_newl, z_newr]
        split
        · next h0 => rw [t1 h0]; rfl
        · next h0 => rw [t2 h0]; rfl
        · next h0 h1 =>
          have h9 := t3 h0 h1
          cases hty9 : ty k <;> rw [hty9] at h9 <;> first | rfl | exact absurd h9 (by decide)
    · cases hs
  · cases hs
theorem z_anew (C : SC p s m args meth c R i D tA cst b) (hR : HR D tA cst b s h H) (hlo : ∀ q ∈ locs, b ≤ q.base) (hl : lv_has ls (m_lc i) (ml cst b lv)) {idx : Nat} (hd : decode (m_m i).2.2.1 pc = .ok (.anewarray idx, 3)) (hs : e_anew i idx pc lv st h = some (.inl S)) : GS p l e R s m args below meth c H locs cells slots Q i D tA cst b h pc ls st S := by
  obtain ⟨hx, hb, hml, hown, hts, hlocks, hini, hfr, hlo9, hks, hc, hr⟩ := C
  unfold e_anew at hs
  split at hs
  · next n r ci hf =>
    split at hs
    · next hk =>
      obtain ⟨hk0, hn, hN⟩ := hk
      cases hs
      have hw := m_ccw hf
      have f1 : h_n (h_new h (m_ek ci) n.toNatClampNeg n.toNatClampNeg) - h_n h = 1 := by
        show h_n h + 1 - h_n h = 1
        omega
      have f2 : h_z (h_new h (m_ek ci) n.toNatClampNeg n.toNatClampNeg) - h_z h = n.toNatClampNeg := by
        show h_z h + n.toNatClampNeg - h_z h = _
        omega
      refine ⟨⟨Nat.le_succ _, Nat.le_add_right _ _⟩, fun hc1 hs1 K => ?_⟩
      dsimp only at hc1 hs1 K
      rw [f1] at hc1
      rw [f2] at hs1
      rw [f1, f2] at K
      show W p l e R s m args below meth c H locs cells slots Q (F0 m pc ls (.int n :: r.map (mv cst b)))
      have fin : ∀ (cA : ClassId), m_okk (m_ek ci) = true → 30 ≤ m_ek ci → cA = tA (m_ek ci) → W p l e R s m args below meth c (H.push { cls := cA, slots := Array.replicate n.toNatClampNeg .null, vm := .none }) locs (cells + 1) (slots + n.toNatClampNeg) Q (F0 m (pc + 3) ls (.ref H.size :: r.map (mv cst b))) := by
        intro cA g1 g0 g2
        have K2 := K _ locs ls (z_newrow (v := .null) hR g1 g2 (by rw [if_neg (by omega), if_neg (by omega)]) (H' := H.push { cls := cA, slots := Array.replicate n.toNatClampNeg .null, vm := .none }) (by rw [← arrV_new]; simp) (by simp) (fun q hq => by rw [Array.getElem?_push, if_neg (Nat.ne_of_lt hq)])) hlo hl
        rw [List.map_cons, z_newst hR rfl] at K2
        exact K2
      have hcc : ci = 6 ∨ ci = 3 ∨ ci = 0 := by
        unfold m_ek at hk0
        split at hk0
        · exact Or.inl rfl
        · exact Or.inr (Or.inl rfl)
        · exact Or.inr (Or.inr rfl)
        · exact absurd rfl hk0
      rcases hcc with e9 | e9 | e9
      · subst e9
        exact W.anew (C := RX6) hx hb hown (hts _ (m_tgI hw rfl)) (va_AO.use hks.2.2.1) rfl hd rfl hn (by omega) hc1 hs1 (fun cA kA comp g1 g2 g3 g4 => fin cA rfl (by decide) (by obtain ⟨_, _, -, -, -, q4⟩ := (hks.1.2 4 _ rfl).2; exact Option.some.inj (g1.symm.trans q4)))
      · subst e9
        exact W.anew (C := RX3) hx hb hown (hts _ (m_tgI hw rfl)) (va_AO.use hks.2.2.2.1) rfl hd rfl hn (by omega) hc1 hs1 (fun cA kA comp g1 g2 g3 g4 => fin cA rfl (by decide) (by obtain ⟨_, _, -, -, -, q4⟩ := (hks.1.2 5 _ rfl).2; exact Option.some.inj (g1.symm.trans q4)))
      · subst e9
        exact W.anew (C := RX0) hx hb hown (hts _ (m_tgI hw rfl)) (va_AO.use hks.2.2.2.2.1) rfl hd rfl hn (by omega) hc1 hs1 (fun cA kA comp g1 g2 g3 g4 => fin cA rfl (by decide) (by obtain ⟨_, _, -, -, -, q4⟩ := (hks.1.2 6 _ rfl).2; exact Option.some.inj (g1.symm.trans q4)))
    · cases hs
  · cases hs
theorem z_gets (C : SC p s m args meth c R i D tA cst b) (hR : HR D tA cst b s h H) (hl : lv_has ls (m_lc i) (ml cst b lv)) {idx : Nat} (hd : decode (m_m i).2.2.1 pc = .ok (.getstatic idx, 3)) (hs : e_gets i idx pc lv st h = some (.inl S)) : PS p l e R s m args below meth c H locs cells slots Q i cst b h pc ls st S := by
  obtain ⟨hx, hb, hml, hown, hts, hlocks, hini, hfr, hlo9, hks, hc, hr⟩ := C
  unfold e_gets at hs
  have hw : ∀ v, m_sf i idx = some v → ((m_m i).2.1.cls = m_sfi1.1 ∧ idx = m_sfi1.2 ∧ v = 1) ∨ ((m_m i).2.1.cls = m_sfi2.1 ∧ idx = m_sfi2.2 ∧ v = 2) ∨ ((m_m i).2.1.cls = m_sfi3.1 ∧ idx = m_sfi3.2 ∧ v = 3) := by
    intro v hv
    have h1 := m_lk_mem hv
    cases hl : m_sfl[m_ow i]? with
    | none =>
      rw [List.getD_eq_getElem?_getD, hl] at h1
      cases h1
    | some l =>
      rw [List.getD_eq_getElem?_getD, hl] at h1
      have h2 := m_KSF _ _ _ (m_own_ok i) hl _ h1
      rcases h2 with ⟨g1, g2⟩ | ⟨g1, g2⟩ | ⟨g1, g2⟩ <;> (cases g2; first | exact Or.inl ⟨g1, rfl, rfl⟩ | exact Or.inr (Or.inl ⟨g1, rfl, rfl⟩) | exact Or.inr (Or.inr ⟨g1, rfl, rfl⟩))
  split at hs
  · next hv =>
    cases hs
    refine ⟨rfl, fun K => ?_⟩
    rcases hw _ hv with ⟨g1, g2, g3⟩ | ⟨-, -, g3⟩ | ⟨-, -, g3⟩
    · rw [g1] at hown
      rw [g2] at hd
      obtain ⟨cf, kf, fi, f, a, cell, h1, h2, h3, h4, h5, h6, h7, h8⟩ := hR.2.2.2.2.1.1
      exact W.gets hx hb hown (hts _ (m_tgI m_ksf1 rfl)) h1 h2 h3 h4 h5 (fun e9 => by rw [e9] at h6; cases h6) h7 rfl hd (K ls hl)
    · omega
    · omega
  · next hv =>
    cases hs
    refine ⟨rfl, fun K => ?_⟩
    rcases hw _ hv with ⟨-, -, g3⟩ | ⟨g1, g2, g3⟩ | ⟨-, -, g3⟩
    · omega
    · rw [g1] at hown
      rw [g2] at hd
      obtain ⟨cf, kf, fi, f, a, cell, h1, h2, h3, h4, h5, h6, h7, h8⟩ := hR.2.2.2.2.1.2.1
      have K2 := K ls hl
      rw [show (List.map (mv cst b) ((.ref 1 : Value) :: st)) = cst 1 :: st.map (mv cst b) from by rw [List.map_cons, mv_cst (by decide) (by decide)]] at K2
      exact va_WgetsN hx hb hown (va_Nw.use rfl (hks.2.1 _ m_ksf2 rfl)) h1 h2 h3 h4 h5 (fun e9 => by rw [e9] at h6; cases h6) h7 rfl hd K2
    · omega
  · next hv =>
    cases hs
    refine ⟨rfl, fun K => ?_⟩
    rcases hw _ hv with ⟨-, -, g3⟩ | ⟨-, -, g3⟩ | ⟨g1, g2, g3⟩
    · omega
    · omega
    · rw [g1] at hown
      rw [g2] at hd
      obtain ⟨cf, kf, fi, f, a, cell, h1, h2, h3, h4, h5, h6, h7, h8⟩ := hR.2.2.2.2.1.2.2
      have K2 := K ls hl
      rw [show (List.map (mv cst b) ((.ref 15 : Value) :: st)) = cst 15 :: st.map (mv cst b) from by rw [List.map_cons, mv_cst (by decide) (by decide)]] at K2
      exact W.gets hx hb hown (hts _ (m_tgI m_ksf3 rfl)) h1 h2 h3 h4 h5 (fun e9 => by rw [e9] at h6; cases h6) h7 rfl hd K2
  · cases hs
theorem z_ldc (C : SC p s m args meth c R i D tA cst b) (hl : lv_has ls (m_lc i) (ml cst b lv)) {idx : Nat} (hd : decode (m_m i).2.2.1 pc = .ok (.ldc idx, 2)) (hs : e_ldc 2 i idx pc lv st h = some (.inl S)) : PS p l e R s m args below meth c H locs cells slots Q i cst b h pc ls st S := by
  obtain ⟨hx, hb, hml, hown, hts, hlocks, hini, hfr, hlo9, hks, hc, hr⟩ := C
  unfold e_ldc at hs
  split at hs
  · next x hf =>
    exact x_push hl (fun k => lv_ldc hx hb hown (hts _ (m_tgI (m_icw' hf) rfl)) hd k) hs
  · rw [if_pos rfl] at hs
    split at hs
    · next a hf =>
      refine x_push hl (fun k => ?_) hs
      have h1 := m_lk_mem hf
      cases hl9 : m_sck[m_ow i]? with
      | none =>
        rw [List.getD_eq_getElem?_getD, hl9] at h1
        cases h1
      | some l =>
        rw [List.getD_eq_getElem?_getD, hl9] at h1
        obtain ⟨k9, g1, g2, g3⟩ := m_KSS _ _ _ (m_own_ok i) hl9 _ h1
        obtain ⟨q, g4⟩ : ∃ q, m_strs[k9]? = some q := ⟨_, List.getElem?_eq_getElem g1⟩
        rw [List.getElem?_map, g4] at g3
        have g3 := Option.some.inj g3
        obtain ⟨r9, g5, g6⟩ := hks.2.2.2.2.2.2 k9 q g4
        have g7 : q.1 = (m_m i).2.1.cls := congrArg Prod.fst g3
        have g8 : q.2.1 = idx := congrArg Prod.snd g3
        rw [g7, g8] at g6
        have hlen : m_strs.length = 6 := by decide
        have g2 : a = 2 + k9 := g2
        rw [g2, mv_cst (by omega) (by omega), g5] at k
        exact va_ldcS hx hb hown g6 hd k
    · cases hs
theorem z_ldcw (C : SC p s m args meth c R i D tA cst b) (hl : lv_has ls (m_lc i) (ml cst b lv)) {idx : Nat} (hd : decode (m_m i).2.2.1 pc = .ok (.ldc_w idx, 3)) (hs : e_ldc 3 i idx pc lv st h = some (.inl S)) : PS p l e R s m args below meth c H locs cells slots Q i cst b h pc ls st S := by
  obtain ⟨hx, hb, hml, hown, hts, hlocks, hini, hfr, hlo9, hks, hc, hr⟩ := C
  unfold e_ldc at hs
  split at hs
  · next x hf =>
    exact x_push hl (fun k => lv_ldcw hx hb hown (hts _ (m_tgI (m_icw' hf) rfl)) hd k) hs
  · rw [if_neg (by decide)] at hs
    cases hs
theorem z_ldc2 (C : SC p s m args meth c R i D tA cst b) (hl : lv_has ls (m_lc i) (ml cst b lv)) {idx : Nat} (hd : decode (m_m i).2.2.1 pc = .ok (.ldc2_w idx, 3)) (hs : m_ex i pc (.ldc2_w idx) lv st h = some (.inl S)) : PS p l e R s m args below meth c H locs cells slots Q i cst b h pc ls st S := by
  obtain ⟨hx, hb, hml, hown, hts, hlocks, hini, hfr, hlo9, hks, hc, hr⟩ := C
  simp only [m_ex] at hs
  split at hs
  · next x hf =>
    exact x_push hl (fun k => lv_ldc2 hx hb hown (hts _ (m_tgI (m_jcw hf) rfl)) hd k) hs
  · cases hs
end SIMN
