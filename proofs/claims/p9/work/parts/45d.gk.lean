-- lists of ghosts and keepers
section
variable {sp : List RS} {CC : Nat × (Nat × Nat)} {PT : Nat → (Nat → Nat) → MH → Prop} {i : Nat}
theorem GK_nil : GKok sp CC PT i ([], []) := ⟨fun _ _ h => (by cases h), fun _ _ h => (by cases h)⟩
theorem GK_g {pc : Nat} {g : SM} {gs : List (Nat × SM)} {ks : List (Nat × KR)} (hg : G_ok sp CC PT g) (r : GKok sp CC PT i (gs, ks)) : GKok sp CC PT i ((pc, g) :: gs, ks) := ⟨fun p q h => by
  have h : m_lk ((pc, g) :: gs) p = some q := h
  rw [m_lkc] at h
  split at h
  · cases h
    exact hg
  · exact r.1 p q h, r.2⟩
theorem GK_k {pc : Nat} {k : KR} {gs : List (Nat × SM)} {ks : List (Nat × KR)} (hk : K_ok sp CC PT i pc k) (r : GKok sp CC PT i (gs, ks)) : GKok sp CC PT i (gs, (pc, k) :: ks) := ⟨r.1, fun p q h => by
  have h : m_lk ((pc, k) :: ks) p = some q := h
  rw [m_lkc] at h
  split at h
  · next e =>
    cases h
    rw [← e]
    exact hk
  · exact r.2 p q h⟩
end
