-- RAW PICTURES: by addresses, no regions (what the class's heaps and nodes want)
def RX (h0 h : MH) (H : Nat → Nat → Int) : Prop := h.1 = h0.1 ∧ h_k h = h_k h0 ∧ (h_r h = h_r h0 ∧ h_l h = h_l h0) ∧ ∀ a j, (h_i h a j).toInt = H a j
theorem RX.start (h : MH) : RX h h (fun a j => (h_i h a j).toInt) := ⟨rfl, rfl, ⟨rfl, rfl⟩, fun _ _ => rfl⟩
theorem RX.si {h0 h : MH} {H : Nat → Nat → Int} {a j : Nat} {x : Int32} {zx : Int} (M : RX h0 h H) (hx : x.toInt = zx) : RX h0 (h_si h a j x) (m_u H a (m_u (H a) j zx)) := ⟨M.1, M.2.1, M.2.2.1, fun b q => by
  show (m_u h.2.2.1 a (m_u (h.2.2.1 a) j x) b q).toInt = _
  by_cases e : b = a
  · subst e
    rw [m_uE, m_uE]
    by_cases f : q = j
    · rw [f, m_uE, m_uE]
      exact hx
    · rw [m_uN _ _ _ _ f, m_uN _ _ _ _ f]
      exact M.2.2.2 b q
  · rw [m_uN _ _ _ _ e, m_uN _ _ _ _ e]
    exact M.2.2.2 b q⟩
section
variable {i pc pc' : Nat} {lv : List (Nat × Value)} {st : List Value} {h0 h : MH} {H : Nat → Nat → Int} {Q : Option Value → MH → Prop}
theorem hR_gi {idx nest c k o : Nat} (M : RX h0 h H) (hk : (h_k h0 o).1 = c + 1) (a : m_at i pc = some (.getfield idx, 3)) (hf : m_fl i idx = some (nest, c, k)) (ht : (m_ty c k).1 = 0) (hp : pc + 3 = pc') (g : ∀ x : Int32, x.toInt = H o k → HJ i pc' lv (.int x :: st) h Q) : HJ i pc lv (.ref o :: st) h Q := hI_gi a hf ht (by rw [M.2.1]; exact hk) hp (g _ (M.2.2.2 o k))
theorem hR_gr {idx nest c k o : Nat} (M : RX h0 h H) (hk : (h_k h0 o).1 = c + 1) (a : m_at i pc = some (.getfield idx, 3)) (hf : m_fl i idx = some (nest, c, k)) (ht : (m_ty c k).1 = 2) (hp : pc + 3 = pc') (g : HJ i pc' lv (.ref (h_r h0 o k) :: st) h Q) : HJ i pc lv (.ref o :: st) h Q := hI_gr a hf ht (by rw [M.2.1]; exact hk) hp (by rw [M.2.2.1.1]; exact g)
theorem hR_pi {idx nest c k o : Nat} {x : Int32} {zx : Int} (M : RX h0 h H) (hk : (h_k h0 o).1 = c + 1) (a : m_at i pc = some (.putfield idx, 3)) (hf : m_fl i idx = some (nest, c, k)) (hc : c < 10 ∧ k < m_nf c ∧ m_ty c k = (0, false)) (hx : x.toInt = zx) (hp : pc + 3 = pc') (g : ∀ (h' : MH) (H' : Nat → Nat → Int), H' = m_u H o (m_u (H o) k zx) → RX h0 h' H' → HJ i pc' lv st h' Q) : HJ i pc lv (.int x :: .ref o :: st) h Q := hI_pi a hf hc (by rw [M.2.1]; exact hk) hp (g _ _ rfl (M.si hx))
theorem hR_ia {j : Int32} {zj : Int} {o : Nat} (M : RX h0 h H) (hk : (h_k h0 o).1 = 20) (hj : j.toInt = zj) (b0 : 0 ≤ zj) (b1 : zj < (h_k h0 o).2) (a : m_at i pc = some (.iaload, 1)) (hp : pc + 1 = pc') (g : ∀ x : Int32, x.toInt = H o zj.toNat → HJ i pc' lv (.int x :: st) h Q) : HJ i pc lv (.int j :: .ref o :: st) h Q := hI_ia a (by rw [M.2.1]; exact hk) (by omega) (by rw [M.2.1]; omega) hp (g _ (by rw [hj]; exact M.2.2.2 o _))
theorem hR_is {j x : Int32} {zj zx : Int} {o : Nat} (M : RX h0 h H) (ho : 16 ≤ o) (hk : (h_k h0 o).1 = 20) (hj : j.toInt = zj) (hx : x.toInt = zx) (b0 : 0 ≤ zj) (b1 : zj < (h_k h0 o).2) (a : m_at i pc = some (.iastore, 1)) (hp : pc + 1 = pc') (g : ∀ (h' : MH) (H' : Nat → Nat → Int), H' = m_u H o (m_u (H o) zj.toNat zx) → RX h0 h' H' → HJ i pc' lv st h' Q) : HJ i pc lv (.int x :: .int j :: .ref o :: st) h Q := hI_is_ a ho (by rw [M.2.1]; exact hk) (by omega) (by rw [M.2.1]; omega) hp (g _ _ (by rw [hj]) (M.si hx))
theorem hR_as {k : Fin 4} {x : Nat} (a : m_at i pc = some (.astore_n k, 1)) (hk : k.val < m_lc i) (hp : pc + 1 = pc') (g : ∀ lv', m_lk lv' k.val = some (.ref x) → (∀ (q : Nat) (w : Value), q ≠ k.val → (w.category = 1 ∨ q + 1 ≠ k.val) → m_lk lv q = some w → m_lk lv' q = some w) → HJ i pc' lv' st h Q) : HJ i pc lv (.ref x :: st) h Q := hI_as a hk hp (g _ (lk_s1 _ _) (fun _ _ h1 h2 e => lk_k1 e h1 h2))
theorem hR_as2 {k : Nat} {x : Nat} (a : m_at i pc = some (.astore k, 2)) (hk : k < m_lc i) (hp : pc + 2 = pc') (g : ∀ lv', m_lk lv' k = some (.ref x) → (∀ (q : Nat) (w : Value), q ≠ k → (w.category = 1 ∨ q + 1 ≠ k) → m_lk lv q = some w → m_lk lv' q = some w) → HJ i pc' lv' st h Q) : HJ i pc lv (.ref x :: st) h Q := hI_as2 a hk hp (g _ (lk_s1 _ _) (fun _ _ h1 h2 e => lk_k1 e h1 h2))
theorem hR_al {o : Nat} (M : RX h0 h H) (hk : 20 ≤ (h_k h0 o).1 ∧ (h_k h0 o).1 < 34) (hb : (h_k h0 o).2 < 2147483648) (a : m_at i pc = some (.arraylength, 1)) (hp : pc + 1 = pc') (g : ∀ x : Int32, x.toInt = ((h_k h0 o).2 : Int) → HJ i pc' lv (.int x :: st) h Q) : HJ i pc lv (.ref o :: st) h Q := hI_len a (by rw [M.2.1]; exact hk) hp (g _ (by rw [M.2.1]; exact Int32.toInt_ofNat_of_lt hb))
end
-- a call on an object of the class kc
theorem m_cR {i pc pc' idx nest j o kc : Nat} {lv : List (Nat × Value)} {as r st0 : List Value} {h : MH} (a : m_at i pc = some (.invokevirtual idx, 3)) (hm : m_ml i idx = some (nest, j)) (hok : k_ok 1 i j = true) (hna : m_na j = as.length) (hst : st0 = as.reverse ++ (.ref o :: r)) (hp : pc + 3 = pc') (hx : Nat.ble (m_cat r) 8 = true ∧ ¬ (m_m j).2.1.cls = "java/lang/String" ∧ m_cnm kc = (m_m j).2.1.cls) (kl : kc < 10) (o16 : 16 ≤ o) (ko : (h_k h o).1 = kc + 1) : m_st i pc lv st0 h = some (.inr (.inr (j, .ref o :: as, r, pc'))) := by
  subst hp hst
  obtain ⟨hc, hns, hcl⟩ := hx
  obtain ⟨⟨k1, k2, k3, k4⟩, k5⟩ := of_decide_eq_true hok
  have e1 : (as.reverse ++ Value.ref o :: r).drop (m_na j) = .ref o :: r := by
    rw [hna, ← List.length_reverse]
    exact List.drop_left
  have e2 : (as.reverse ++ Value.ref o :: r).take (m_na j) = as.reverse := by
    rw [hna, ← List.length_reverse]
    exact List.take_left
  refine (m_stx a (Or.inl rfl)).trans ?_
  show e_call 1 i idx pc lv _ h = _
  unfold e_call
  rw [hm]
  dsimp only
  rw [if_neg k1, if_neg k2, if_neg k3, if_neg k4, if_pos k5, if_neg (by decide), e1, e2]
  dsimp only
  rw [if_pos, List.reverse_reverse]
  refine ⟨by rw [hna, List.length_append, List.length_reverse, List.length_cons]; omega, Nat.le_of_ble_eq_true hc, ?_⟩
  rw [if_neg hns, ko]
  exact ⟨by rw [Nat.add_sub_cancel]; exact hcl, o16, by omega, by omega⟩
