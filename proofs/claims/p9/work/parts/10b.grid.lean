-- ROWS OF ROWS
section SIMG
variable {p : Program} {l : Launch} {e : Env} {R : Room} {s : State} {m : MethodId} {args : Array Value} {below : List Frame} {meth : Method} {c : Code} {Q : State → Prop} {i : Nat} {D : va_G} {tA : Nat → ClassId} {cst : Nat → Value} {b : Nat}
variable {H : Heap} {locs : List Loc} {cells slots : Nat} {pc : Nat} {ls : Array Slot} {lv : List (Nat × Value)} {st : List Value} {h : MH} {S : MS}
theorem z_outer (cI : ClassId) (N h0 : Nat) : ∀ k : Nat, Jvm.Free.Multi.outerC cI N h0 k = arrV cI N (fun j => if j < k then .ref (h0 + 1 + j) else .null)
  | 0 => by
    show ({ cls := cI, slots := Array.replicate N .null, vm := .none } : Cell) = _
    rw [arrV_new]
    refine congrArg (arrV cI N) (funext fun j => ?_)
    simp
  | k + 1 => by
    show (Jvm.Free.Multi.outerC cI N h0 k).setSlot k (.ref (h0 + 1 + k)) = _
    rw [z_outer cI N h0 k, arrV_store]
    refine congrArg (arrV cI N) (funext fun j => ?_)
    by_cases e9 : j = k
    · subst e9
      simp [updV]
    · by_cases h9 : j < k
      · simp [updV, e9, h9, Nat.lt_succ_of_lt h9]
      · simp [updV, e9, h9, show ¬ j < k + 1 by omega]
theorem z_grid (C : SC p s m args meth c R i D tA cst b) (hR : HR D tA cst b s h H) (hlo : ∀ q ∈ locs, b ≤ q.base) (hl : lv_has ls (m_lc i) (ml cst b lv)) {idx : Nat} (hd : decode (m_m i).2.2.1 pc = .ok (.multianewarray idx 2, 4)) (hs : e_grid i idx pc lv st h = some (.inl S)) : GS p l e R s m args below meth c H locs cells slots Q i D tA cst b h pc ls st S := by
  obtain ⟨hx, hb, hml, hown, hts, hlocks, hini, hfr, hlo9, hks, hc, hr⟩ := C
  unfold e_grid at hs
  split at hs
  · next k n r hf =>
    split at hs
    · next hk =>
      obtain ⟨hn, hk0, hN, hK⟩ := hk
      cases hs
      have hw := m_ccw hf
      have hS1 : h_n h = h.1.1 := rfl
      have f1 : h_n (h_grid h n.toNatClampNeg k.toNatClampNeg) - h_n h = 1 + n.toNatClampNeg := by
        show h_n h + (1 + n.toNatClampNeg) - h_n h = _
        omega
      have f2 : h_z (h_grid h n.toNatClampNeg k.toNatClampNeg) - h_z h = n.toNatClampNeg + n.toNatClampNeg * k.toNatClampNeg := by
        show h_z h + (n.toNatClampNeg + n.toNatClampNeg * k.toNatClampNeg) - h_z h = _
        omega
      refine ⟨⟨Nat.le_add_right _ _, Nat.le_add_right _ _⟩, fun hc1 hs1 K => ?_⟩
      dsimp only at hc1 hs1 K
      rw [f1] at hc1
      rw [f2] at hs1
      rw [f1, f2] at K
      show W p l e R s m args below meth c H locs cells slots Q (F0 m pc ls (.int k :: .int n :: r.map (mv cst b)))
      intro T hT X
      obtain ⟨vm₁, cA, comp, -, fA, fC, hO, -, X', step⟩ := X.multianewarray2F (ty := .int) hx hown (hts _ (m_tgI hw rfl)) (over_moved (Vm.Alike.refl _) hks.2.2.2.2.2.1) (hts _ (m_tgI (m_karr _ (List.mem_of_getElem? (i := 0) rfl)) rfl)) (g := F0 m pc ls (.int k :: .int n :: r.map (mv cst b))) rfl (by rw [hb]; exact hd) rfl hn hk0 (by omega) (by show _ * 4 ≤ _; omega) (by omega) rfl rfl hc1 hs1
      have eA : cA = tA 33 := Option.some.inj (fA.symm.trans (hks.1.2 7 _ rfl).2)
      have eC : comp = tA 20 := Option.some.inj (fC.symm.trans (hks.1.2 0 _ rfl).2)
      subst eA
      subst eC
      generalize hF : Jvm.Free.Multi.fill (T.setVm vm₁) (tA 33) (tA 20) n.toNatClampNeg k.toNatClampNeg (defaultValue .int) n.toNatClampNeg = F at X' step
      have hTh : (T.setVm vm₁).heap = H := hT
      obtain ⟨g1, g2, -, -⟩ := Jvm.Free.Multi.fill_facts (T.setVm vm₁) (tA 33) (tA 20) n.toNatClampNeg k.toNatClampNeg (defaultValue .int) n.toNatClampNeg
      rw [hF, hTh] at g1 g2
      have hold : ∀ x : Nat, x < H.size → F.heap[x]? = H[x]? := fun x hx9 => by
        have := Jvm.Free.Multi.fill_old (T.setVm vm₁) (tA 33) (tA 20) n.toNatClampNeg k.toNatClampNeg (defaultValue .int) (a := x) (by rw [hTh]; exact hx9) n.toNatClampNeg
        rw [hF, hTh] at this
        exact this
      have hrow : ∀ j : Nat, j < n.toNatClampNeg → F.heap[H.size + 1 + j]? = some (arrV (tA 20) k.toNatClampNeg (fun _ => .int 0)) := fun j hj => by
        have := Jvm.Free.Multi.fill_inner (T.setVm vm₁) (tA 33) (tA 20) n.toNatClampNeg k.toNatClampNeg (defaultValue .int) n.toNatClampNeg j hj
        rw [hF, hTh] at this
        rw [this, ← arrV_new]
        rfl
      rw [z_outer] at g2
      have hz := hR.1
      have hR2 : HR D tA cst b s (h_grid h n.toNatClampNeg k.toNatClampNeg) F.heap := by
        have en : h_n (h_grid h n.toNatClampNeg k.toNatClampNeg) = h_n h + (1 + n.toNatClampNeg) := rfl
        refine hR.grow (1 + n.toNatClampNeg) en (fun x hx9 => ?_) (fun x hx9 => ?_) (by rw [g1]; omega) hold (fun x h1 h2 => ?_)
        · show (if x = 16 + h.1.1 then (33, n.toNatClampNeg) else if 16 + h.1.1 < x ∧ x ≤ 16 + h.1.1 + n.toNatClampNeg then (20, k.toNatClampNeg) else h.2.1 x) = h.2.1 x
          rw [if_neg (by omega), if_neg (by omega)]
        · refine ⟨?_, rfl, ?_⟩
          · show (if 16 + h.1.1 ≤ x ∧ x ≤ 16 + h.1.1 + n.toNatClampNeg then (fun _ => 0) else h.2.2.1 x) = h.2.2.1 x
            rw [if_neg (by omega)]
          · show m_u h.2.2.2.2 (16 + h.1.1) _ x = h.2.2.2.2 x
            unfold m_u
            rw [if_neg (by omega)]
        · by_cases ex : x = 16 + h.1.1
          · have ek : h_k (h_grid h n.toNatClampNeg k.toNatClampNeg) x = (33, n.toNatClampNeg) := if_pos ex
            refine Or.inr ⟨by rw [ek]; rfl, ?_, fun q => by rw [ek] at q; cases q⟩
            rw [ek, show b + (x - 16) = H.size by omega, g2]
            congr 2
            funext j
            show _ = mv cst b (.ref (m_u h.2.2.2.2 (16 + h.1.1) (fun i => if i < n.toNatClampNeg then 16 + h.1.1 + 1 + i else 0) x j))
            unfold m_u
            rw [if_pos ex]
            by_cases hj : j < n.toNatClampNeg
            · simp only [hj, if_true]
              rw [mv_dyn (by omega)]
              congr 1
              show H.size + 1 + j = b + (16 + h.1.1 + 1 + j - 16)
              omega
            · simp only [hj, if_false]
              rfl
          · have ek : h_k (h_grid h n.toNatClampNeg k.toNatClampNeg) x = (20, k.toNatClampNeg) := by
              show (if x = 16 + h.1.1 then (33, n.toNatClampNeg) else if 16 + h.1.1 < x ∧ x ≤ 16 + h.1.1 + n.toNatClampNeg then (20, k.toNatClampNeg) else h.2.1 x) = _
              rw [if_neg ex, if_pos (by omega)]
            refine Or.inr ⟨by rw [ek]; rfl, ?_, fun q => by rw [ek] at q; cases q⟩
            rw [ek, show b + (x - 16) = H.size + 1 + (x - 17 - h.1.1) by omega, hrow _ (by omega)]
            congr 2
            funext j
            show _ = Value.int ((if 16 + h.1.1 ≤ x ∧ x ≤ 16 + h.1.1 + n.toNatClampNeg then (fun _ => 0) else h.2.2.1 x) j)
            rw [if_pos (by omega)]
      have K2 := K F.heap locs ls hR2 hlo hl
      rw [List.map_cons, z_newst hR rfl] at K2
      obtain ⟨t, b1, b2⟩ := K2 F rfl (by
        have e1 : cells + (1 + n.toNatClampNeg) = cells + 1 + n.toNatClampNeg := by omega
        have e2 : slots + (n.toNatClampNeg + n.toNatClampNeg * k.toNatClampNeg) = slots + n.toNatClampNeg + n.toNatClampNeg * k.toNatClampNeg := by omega
        rw [e1, e2]
        exact X')
      refine ⟨t, step t ?_, b2⟩
      have e9 : T.heap.size = H.size := by rw [hT]
      rw [e9]
      exact b1
    · cases hs
  · cases hs
end SIMG
