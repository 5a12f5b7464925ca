-- null, and what isn't
def a_nn (o : Nat) (t : AT) : AT := match t with
  | .inr (.inr q) => if q.1 = o then .inr (.inr (q.1, (q.2.1, true))) else t
  | _ => t
def w_nn (o : Nat) (S : AST) : AST := w_fs (w_ca S ((a_ca S).map (fun q => (q.1, a_nn o q.2)))) ((a_lv S).map (fun q => (q.1, a_nn o q.2))) ((a_st S).map (a_nn o))
def j_null (pc : Nat) (S : AST) : Option (List AO) := t_rr pc S (a_st S) false 0 0 0 0 false
-- by a null test: one way or both (nul: pc of null, non: pc of the other)
def t_nul (sp : List RS) (nul non : Int) (S : AST) (o R : Nat) (nn : Bool) (st : List AT) : Option (List AO) := if 0 ≤ nul ∧ 0 ≤ non then (if R = 0 then (if nn = true then some [] else some [(nul.toNat, w_fs S (a_lv S) st)]) else match sp[R]? with
    | some rs => if rs.2.1 = true then some ((if nn = true then [] else [(nul.toNat, w_fs S (a_lv S) st)]) ++ [(non.toNat, w_nn o (w_fs S (a_lv S) st))]) else none
    | none => none) else none
section
variable {sp : List RS} {ρ : Nat → Nat} {W : List (Nat × Nat)} {K : List Int} {KA : List Nat} {S : AST} {lv' : List (Nat × Value)} {st' : List Value} {h : MH} {pc : Nat} {st : List AT} {σ : Nat → Int} {α : Nat → Nat}
theorem q_null (ht : TH sp ρ h) (hw : TW ρ K KA S lv' st' h σ α) : T_P sp ρ W K KA (j_null pc S) h (m_go pc lv' (.ref 0 :: st') h) := q_rr ht hw hw.2.2.2.2.2.2 (Or.inl ⟨rfl, rfl⟩) (fun z => by cases z)
theorem n_rf {o R : Nat} {nn : Bool} (ho : α o ≠ 0) (h : t_rf ρ R nn (α o)) : t_rf ρ R true (α o) := by
  rcases h with h | h
  · exact absurd h.1 ho
  · exact Or.inr h
theorem n_at {o : Nat} {t : AT} {v : Value} (ho : α o ≠ 0) (h : t_at σ α ρ t v) : t_at σ α ρ (a_nn o t) v := by
  unfold a_nn
  split
  · next q =>
    split
    · next e =>
      obtain ⟨h1, h2⟩ := h
      refine ⟨h1, ?_⟩
      dsimp only
      rw [e] at h2 ⊢
      exact n_rf ho h2
    · exact h
  · exact h
theorem n_fv {o a k : Nat} {t : AT} (ho : α o ≠ 0) (hv : t_fv σ α ρ h a k t) : t_fv σ α ρ h a k (a_nn o t) := by
  unfold a_nn
  split
  · next q =>
    split
    · next e =>
      obtain ⟨h1, h2⟩ := hv
      refine ⟨h1, ?_⟩
      dsimp only
      rw [e] at h2 ⊢
      exact n_rf ho h2
    · exact hv
  · exact hv
theorem n_sk {o : Nat} (ho : α o ≠ 0) : ∀ {t : List AT} {v : List Value}, t_sk σ α ρ t v → t_sk σ α ρ (t.map (a_nn o)) v
  | [], [], h => h
  | t :: r, v :: q, h => ⟨n_at ho h.1, n_sk ho h.2⟩
  | [], _ :: _, h => h.elim
  | _ :: _, [], h => h.elim
theorem n_lv {o : Nat} (ho : α o ≠ 0) {t : List (Nat × AT)} {v : List (Nat × Value)} (h : t_lv σ α ρ t v) : t_lv σ α ρ (t.map (fun q => (q.1, a_nn o q.2))) v := fun q hq => by
  obtain ⟨q0, h0, rfl⟩ := List.mem_map.mp hq
  obtain ⟨x, h1, h2⟩ := h q0 h0
  exact ⟨x, h1, n_at ho h2⟩
theorem n_S {o : Nat} (ho : α o ≠ 0) (hw : TW ρ K KA S lv' st' h σ α) : TW ρ K KA (w_nn o S) lv' st' h σ α := by
  obtain ⟨w1, w2, w3, w4, w5, w6, w7⟩ := hw
  refine ⟨w1, w2, fun q hq => ?_, w4, w5, n_lv ho w6, n_sk ho w7⟩
  obtain ⟨q0, h0, rfl⟩ := List.mem_map.mp hq
  obtain ⟨g1, g2⟩ := w3 q0 h0
  exact ⟨g1, n_fv ho g2⟩
theorem q_nul {nul non : Int} {o R : Nat} {nn : Bool} {st0 : List Value} {R' : Option MA} (ht : TH sp ρ h) (hw : TW ρ K KA S lv' st0 h σ α) (hs : t_sk σ α ρ st st') (hr : t_rf ρ R nn (α o)) (h0 : 0 ≤ nul → α o = 0 → R' = some (.inl (nul.toNat, lv', st', h))) (h1 : 0 ≤ non → 16 ≤ α o → R' = some (.inl (non.toNat, lv', st', h))) : T_P sp ρ W K KA (t_nul sp nul non S o R nn st) h R' := by
  have hw2 := q_fs (st := st) (st' := st') hw hw.2.2.2.2.2.1 hs
  unfold t_nul
  split
  · next hp =>
    split
    · next hR =>
      rcases hr with ⟨z1, z2⟩ | ⟨z1, z3, z2⟩
      · rw [z2]
        intro L e
        cases e
        exact ⟨_, lv', st', h, h0 hp.1 z1, FR.refl _ _ _, _, List.mem_singleton.mpr rfl, ht, σ, α, hw2⟩
      · exact absurd hR z3
    · next hR =>
      split
      · next rs hsp =>
        split
        · next hk =>
          intro L e
          cases e
          rcases hr with ⟨z1, z2⟩ | ⟨z1, z3, z2⟩
          · rw [z2]
            exact ⟨_, lv', st', h, h0 hp.1 z1, FR.refl _ _ _, _, List.mem_append_left _ (List.mem_singleton.mpr rfl), ht, σ, α, hw2⟩
          · have hcell := t_spec ht hR hsp z2
            exact ⟨_, lv', st', h, h1 hp.2 (hcell.2.2.1 hk), FR.refl _ _ _, _, List.mem_append_right _ (List.mem_singleton.mpr rfl), ht, σ, α, n_S z1 hw2⟩
        · exact q_no
      · exact q_no
  · exact q_no
end
