-- WHAT IS MADE, ONE CELL BEHIND THE OTHER: kind, length; reference fields (to which cell), int fields written (2000 ..)
abbrev NC : Type := (Nat × Nat) × List (Nat × Nat)
def nc_r (b : Nat) (c : NC) (k : Nat) : Nat := match m_lk c.2 k with
  | some q => b + q
  | none => 0
def NCok (b : Nat) (h : MH) (a : Nat) (c : NC) : Prop := h_k h a = c.1 ∧ ∀ k, k < 1000 → ((m_lk c.2 (2000 + k)).isSome = true ∨ h_i h a k = 0) ∧ (c.1.1 < 20 ∨ 30 ≤ c.1.1 → h_r h a k = nc_r b c k)
def SX (h0 h : MH) (D : List NC) (Z : Nat) : Prop := (h_n h = h_n h0 + D.length ∧ h_z h = h_z h0 + Z) ∧ (∀ a, a < 16 + h_n h0 → h_k h a = h_k h0 a ∧ ∀ k, h_i h a k = h_i h0 a k ∧ h_l h a k = h_l h0 a k ∧ h_r h a k = h_r h0 a k) ∧ ∀ j c, D[j]? = some c → NCok (16 + h_n h0) h (16 + h_n h0 + j) c
section
variable {h0 h : MH} {D : List NC} {Z : Nat}
theorem sx_start : SX h h [] 0 := ⟨⟨rfl, rfl⟩, fun _ _ => ⟨rfl, fun _ => ⟨rfl, rfl, rfl⟩⟩, fun j c e => by cases e⟩
theorem sx_new {k len sz : Nat} (S : SX h0 h D Z) : SX h0 (h_new h k len sz) (D ++ [((k, len), [])]) (Z + sz) := by
  obtain ⟨⟨a1, a2⟩, a3, a4⟩ := S
  have e9 : (D ++ [((k, len), ([] : List (Nat × Nat)))]).length = D.length + 1 := List.length_append
  refine ⟨⟨?_, ?_⟩, fun a ha => ?_, fun j c e => ?_⟩
  · rw [e9]
    show h_n h + 1 = _
    omega
  · show h_z h + sz = _
    omega
  · obtain ⟨b1, b2⟩ := a3 a ha
    exact ⟨(nw_k (by omega)).trans b1, fun q => ⟨(nw_i (by omega) q).trans (b2 q).1, (nw_l (by omega) q).trans (b2 q).2.1, (nw_r (by omega) q).trans (b2 q).2.2⟩⟩
  · by_cases hj : j < D.length
    · rw [List.getElem?_append_left hj] at e
      obtain ⟨b1, b2⟩ := a4 j c e
      exact ⟨(nw_k (by omega)).trans b1, fun q hq => ⟨(b2 q hq).1.imp id (fun z => (nw_i (by omega) q).trans z), fun z => (nw_r (by omega) q).trans ((b2 q hq).2 z)⟩⟩
    · have hj2 : j = D.length := by
        have := (List.getElem?_eq_some_iff.mp e).1
        omega
      subst hj2
      rw [List.getElem?_append_right (Nat.le_refl _), Nat.sub_self] at e
      cases (Option.some.inj e)
      have ea : 16 + h_n h0 + D.length = 16 + h_n h := by omega
      rw [ea]
      exact ⟨z_newk, fun q _ => ⟨Or.inr (by rw [z_newi]), fun _ => by rw [z_newr]; rfl⟩⟩
theorem sx_lt {j : Nat} {c : NC} (S : SX h0 h D Z) (e : D[j]? = some c) : j < D.length := (List.getElem?_eq_some_iff.mp e).1
theorem sx_pr {j k q : Nat} {c : NC} (S : SX h0 h D Z) (e : D[j]? = some c) (hk : k < 1000) : SX h0 (h_sr h (16 + h_n h0 + j) k (16 + h_n h0 + q)) (D.set j (c.1, (k, q) :: c.2)) Z := by
  have hj := sx_lt S e
  obtain ⟨⟨a1, a2⟩, a3, a4⟩ := S
  refine ⟨⟨by rw [List.length_set]; exact a1, a2⟩, fun a ha => ?_, fun j2 c2 e2 => ?_⟩
  · obtain ⟨b1, b2⟩ := a3 a ha
    exact ⟨b1, fun p => ⟨(b2 p).1, (b2 p).2.1, by rw [s_srR, if_neg (fun z => by have := z.1; omega)]; exact (b2 p).2.2⟩⟩
  · by_cases ej : j2 = j
    · subst ej
      rw [List.getElem?_set_self hj] at e2
      cases (Option.some.inj e2)
      obtain ⟨b1, b2⟩ := a4 j2 c e
      refine ⟨b1, fun p hp => ⟨?_, fun z => ?_⟩⟩
      · rcases (b2 p hp).1 with w | w
        · left
          rw [m_lkc, if_neg (by show k ≠ 2000 + p; omega)]
          exact w
        · exact Or.inr w
      · unfold nc_r
        dsimp only
        rw [s_srR, m_lkc]
        by_cases ek : p = k
        · subst ek
          rw [if_pos ⟨rfl, rfl⟩, if_pos rfl]
        · rw [if_neg (fun z => ek z.2), if_neg (fun z => ek z.symm)]
          exact (b2 p hp).2 z
    · rw [List.getElem?_set_ne (fun z => ej z.symm)] at e2
      obtain ⟨b1, b2⟩ := a4 j2 c2 e2
      exact ⟨b1, fun p hp => ⟨(b2 p hp).1, fun z => by rw [s_srR, if_neg (fun z => by have := z.1; omega)]; exact (b2 p hp).2 z⟩⟩
theorem sx_pi {j k : Nat} {x : Int32} {c : NC} (S : SX h0 h D Z) (e : D[j]? = some c) : SX h0 (h_si h (16 + h_n h0 + j) k x) (D.set j (c.1, (2000 + k, 0) :: c.2)) Z := by
  have hj := sx_lt S e
  obtain ⟨⟨a1, a2⟩, a3, a4⟩ := S
  refine ⟨⟨by rw [List.length_set]; exact a1, a2⟩, fun a ha => ?_, fun j2 c2 e2 => ?_⟩
  · obtain ⟨b1, b2⟩ := a3 a ha
    exact ⟨b1, fun p => ⟨by rw [s_siI, if_neg (fun z => by have := z.1; omega)]; exact (b2 p).1, (b2 p).2.1, (b2 p).2.2⟩⟩
  · by_cases ej : j2 = j
    · subst ej
      rw [List.getElem?_set_self hj] at e2
      cases (Option.some.inj e2)
      obtain ⟨b1, b2⟩ := a4 j2 c e
      refine ⟨b1, fun p hp => ⟨?_, fun z => ?_⟩⟩
      · by_cases ek : p = k
        · subst ek
          left
          rw [m_lkc, if_pos rfl]
          rfl
        · rcases (b2 p hp).1 with w | w
          · left
            rw [m_lkc, if_neg (by show 2000 + k ≠ 2000 + p; omega)]
            exact w
          · right
            rw [s_siI, if_neg (fun z => ek z.2)]
            exact w
      · unfold nc_r
        dsimp only
        rw [m_lkc, if_neg (by show 2000 + k ≠ p; omega)]
        exact (b2 p hp).2 z
    · rw [List.getElem?_set_ne (fun z => ej z.symm)] at e2
      obtain ⟨b1, b2⟩ := a4 j2 c2 e2
      exact ⟨b1, fun p hp => ⟨(b2 p hp).1.imp id (fun w => by rw [s_siI, if_neg (fun z => by have := z.1; omega)]; exact w), (b2 p hp).2⟩⟩
end
section
variable {i pc pc' : Nat} {lv : List (Nat × Value)} {st : List Value} {h0 h : MH} {D : List NC} {Z : Nat} {Q : Option Value → MH → Prop}
theorem hS_new {idx c j : Nat} (S : SX h0 h D Z) (a : m_at i pc = some (.new idx, 3)) (hc : m_cc i idx = some c) (h10 : c < 10) (hj : D.length = j) (hp : pc + 3 = pc') (g : ∀ h', SX h0 h' (D ++ [((c + 1, m_nf c), [])]) (Z + m_nf c) → HJ i pc' lv (.ref (16 + h_n h0 + j) :: st) h' Q) : HJ i pc lv st h Q := by
  have e1 : 16 + h_n h0 + j = 16 + h_n h := by have := S.1.1; omega
  have g := g _ (sx_new S)
  rw [e1] at g
  subst hp
  refine HJ.ex a (Or.inl rfl) ?_ g
  show e_new i idx pc lv st h = _
  unfold e_new
  rw [hc]
  dsimp only
  rw [if_pos h10]
  rfl
theorem hS_newa {t : ArrayType} {x : Int32} {n j : Nat} (S : SX h0 h D Z) (a : m_at i pc = some (.newarray t, 2)) (hk : m_ak t ≠ 0) (hx : x.toInt = (n : Int)) (hn : n ≤ 1000000) (hj : D.length = j) (hp : pc + 2 = pc') (g : ∀ h', SX h0 h' (D ++ [((m_ak t, n), [])]) (Z + n) → HJ i pc' lv (.ref (16 + h_n h0 + j) :: st) h' Q) : HJ i pc lv (.int x :: st) h Q := by
  have e1 : 16 + h_n h0 + j = 16 + h_n h := by have := S.1.1; omega
  have g := g _ (sx_new S)
  rw [e1] at g
  refine hI_newa a hk (by omega) (by omega) hp ?_
  rw [show x.toInt.toNat = n by omega]
  exact g
theorem hS_pr {idx nest c k j q : Nat} {e : NC} (S : SX h0 h D Z) (a : m_at i pc = some (.putfield idx, 3)) (hf : m_fl i idx = some (nest, c, k)) (hc : c < 10 ∧ k < m_nf c ∧ (m_ty c k).1 = 2 ∧ ((m_ty c k).2 = true → nest = 0 ∧ m_kind i = 2 ∧ m_ownL.getD i 0 = m_ow i ∧ m_cnm c = (m_m i).2.1.cls)) (hk : k < 1000) (hD : D[j]? = some e) (he : e.1.1 = c + 1) (hp : pc + 3 = pc') (g : ∀ h', SX h0 h' (D.set j (e.1, (k, q) :: e.2)) Z → HJ i pc' lv st h' Q) : HJ i pc lv (.ref (16 + h_n h0 + q) :: .ref (16 + h_n h0 + j) :: st) h Q := by
  refine hI_pr a hf hc ?_ hp (g _ (sx_pr S hD hk))
  rw [(S.2.2 j e hD).1]
  exact he
theorem hS_pi {idx nest c k j : Nat} {x : Int32} {e : NC} (S : SX h0 h D Z) (a : m_at i pc = some (.putfield idx, 3)) (hf : m_fl i idx = some (nest, c, k)) (hc : c < 10 ∧ k < m_nf c ∧ m_ty c k = (0, false)) (hD : D[j]? = some e) (he : e.1.1 = c + 1) (hp : pc + 3 = pc') (g : ∀ h', SX h0 h' (D.set j (e.1, (2000 + k, 0) :: e.2)) Z → HJ i pc' lv st h' Q) : HJ i pc lv (.int x :: .ref (16 + h_n h0 + j) :: st) h Q := by
  refine hI_pi a hf hc ?_ hp (g _ (sx_pi S hD))
  rw [(S.2.2 j e hD).1]
  exact he
theorem hS_gr {idx nest c k j q : Nat} {e : NC} (S : SX h0 h D Z) (a : m_at i pc = some (.getfield idx, 3)) (hf : m_fl i idx = some (nest, c, k)) (hty : (m_ty c k).1 = 2) (hk : k < 1000) (hD : D[j]? = some e) (he : e.1.1 = c + 1) (hc : c < 10) (hq : m_lk e.2 k = some q) (hp : pc + 3 = pc') (g : HJ i pc' lv (.ref (16 + h_n h0 + q) :: st) h Q) : HJ i pc lv (.ref (16 + h_n h0 + j) :: st) h Q := by
  obtain ⟨b1, b2⟩ := S.2.2 j e hD
  refine hI_gr a hf hty (by rw [b1]; exact he) hp ?_
  rw [(b2 k hk).2 (Or.inl (by rw [he]; omega))]
  unfold nc_r
  rw [hq]
  exact g
theorem hS_obj {idx nest j : Nat} (a : m_at i pc = some (.invokespecial idx, 3)) (hm : m_ml i idx = some (nest, 900)) (hc : 1 ≤ m_fr i ∧ m_cat st + 12 ≤ m_lo i ∧ m_cat st ≤ 8) (hp : pc + 3 = pc') (g : HJ i pc' lv st h Q) : HJ i pc lv (.ref (16 + h_n h0 + j) :: st) h Q := by
  subst hp
  refine HJ.ex a (Or.inl rfl) ?_ g
  show e_call 2 i idx pc lv (.ref (16 + h_n h0 + j) :: st) h = _
  unfold e_call
  rw [hm]
  dsimp only
  rw [if_pos rfl, if_pos ⟨rfl, by show 16 ≤ 16 + h_n h0 + j; omega, hc⟩]
  rfl
theorem hS_call {idx nest j q : Nat} {e : NC} (S : SX h0 h D Z) (a : m_at i pc = some (.invokespecial idx, 3)) (hm : m_ml i idx = some (nest, j)) (hok : k_ok 2 i j = true) (hD : D[q]? = some e) (he : 0 < e.1.1 ∧ e.1.1 < 11) (hcl : m_cnm (e.1.1 - 1) = (m_m j).2.1.cls) (hns : ¬ (m_m j).2.1.cls = "java/lang/String") (hna : m_na j = 0) (hc : m_cat st ≤ 8) (hca : 1 ≤ m_lc j) (hp : pc + 3 = pc') (g : HJ j 0 (lv_args 0 [.ref (16 + h_n h0 + q)]) [] h (fun v h' => HJ i pc' lv (v.toList ++ st) h' Q)) : HJ i pc lv (.ref (16 + h_n h0 + q) :: st) h Q := by
  subst hp
  obtain ⟨⟨k1, k2, k3, k4⟩, k5⟩ := of_decide_eq_true hok
  refine HJ.call (j := j) (as := [.ref (16 + h_n h0 + q)]) (rr := st) (pc' := pc + 3) ((m_stx a (Or.inl rfl)).trans ?_) hca g
  show e_call 2 i idx pc lv _ h = _
  unfold e_call
  rw [hm]
  dsimp only
  rw [if_neg k1, if_neg k2, if_neg k3, if_neg k4, if_pos k5, if_neg (by decide), hna]
  dsimp only [List.drop, List.take]
  have b1 := (S.2.2 q e hD).1
  rw [if_pos]
  · rfl
  · refine ⟨by rw [List.length_cons]; omega, hc, ?_⟩
    rw [if_neg hns, b1]
    exact ⟨hcl, by show 16 ≤ 16 + h_n h0 + q; omega, he⟩
end
