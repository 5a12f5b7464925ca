section
-- WHAT STANDS: frames by addresses
-- unlike (kept from omega's eyes)
def AN (a b : Nat) : Prop := a ≠ b
theorem RX.zi {h0 h : MH} {H : Nat → Nat → Int} (M : RX h0 h H) (a j : Nat) : z_i h a j = H a j := M.2.2.2 a j
-- who holds the nodes that stood; the new ones none
def HX (nd : Nat) (h h' : MH) : Prop := z_i h nd 5 ≤ z_i h' nd 5 ∧ (∀ j : Nat, (j : Int) < z_i h nd 5 → h_l h' (h_r h' nd 1) j = h_l h (h_r h nd 1) j) ∧ ∀ j : Nat, z_i h nd 5 ≤ (j : Int) → (j : Int) < z_i h' nd 5 → h_l h' (h_r h' nd 1) j = 0
theorem HX.trans {nd : Nat} {h h1 h2 : MH} (a : HX nd h h1) (b : HX nd h1 h2) : HX nd h h2 := by
  obtain ⟨a1, a2, a3⟩ := a
  obtain ⟨b1, b2, b3⟩ := b
  refine ⟨by omega, fun j hj => (b2 j (by omega)).trans (a2 j hj), fun j u1 u2 => ?_⟩
  by_cases c : (j : Int) < z_i h1 nd 5
  · exact (b2 j c).trans (a3 j u1 c)
  · exact b3 j (by omega) u2
def FX (nd : Nat) (Y : Nat → Prop) (h h' : MH) : Prop := h_n h ≤ h_n h' ∧ ((∀ k, k < 2 → h_r h' nd k = h_r h nd k ∨ 16 + h_n h ≤ h_r h' nd k) ∧ HX nd h h') ∧ ∀ a, a < 16 + h_n h → h_k h' a = h_k h a ∧ (∀ k, ¬ (a = nd ∧ k < 2) → h_r h' a k = h_r h a k) ∧ (¬ (a = nd ∨ a = h_r h nd 0 ∨ a = h_r h nd 1 ∨ Y a) → (∀ j, z_i h' a j = z_i h a j) ∧ ∀ j, h_l h' a j = h_l h a j)
theorem FX.same {nd : Nat} {Y : Nat → Prop} {h : MH} : FX nd Y h h := ⟨Nat.le_refl _, ⟨fun _ _ => Or.inl rfl, Int.le_refl _, fun _ _ => rfl, fun _ h1 h2 => absurd h2 (by omega)⟩, fun _ _ => ⟨rfl, fun _ _ => rfl, fun _ => ⟨fun _ => rfl, fun _ => rfl⟩⟩⟩
theorem FX.trans {nd : Nat} {Y : Nat → Prop} {h h1 h2 : MH} (a : FX nd Y h h1) (b : FX nd Y h1 h2) : FX nd Y h h2 := by
  obtain ⟨a1, ⟨a2, ax⟩, a3⟩ := a
  obtain ⟨b1, ⟨b2, bx⟩, b3⟩ := b
  refine ⟨Nat.le_trans a1 b1, ⟨fun k hk => ?_, ax.trans bx⟩, fun q hq => ?_⟩
  · rcases b2 k hk with e | e
    · rw [e]
      exact a2 k hk
    · exact Or.inr (by omega)
  · obtain ⟨x1, x2, x3⟩ := a3 q hq
    obtain ⟨y1, y2, y3⟩ := b3 q (by omega)
    refine ⟨y1.trans x1, fun k hk => (y2 k hk).trans (x2 k hk), fun hn => ?_⟩
    obtain ⟨u1, u2⟩ := x3 hn
    obtain ⟨v1, v2⟩ := y3 (fun z => by
      rcases z with z | z | z | z
      · exact hn (Or.inl z)
      · rcases a2 0 (by decide) with e | e
        · exact hn (Or.inr (Or.inl (z.trans e)))
        · omega
      · rcases a2 1 (by decide) with e | e
        · exact hn (Or.inr (Or.inr (Or.inl (z.trans e))))
        · omega
      · exact hn (Or.inr (Or.inr (Or.inr z))))
    exact ⟨fun j => (v1 j).trans (u1 j), fun j => (v2 j).trans (u2 j)⟩
theorem FX.mono {nd : Nat} {Y Y' : Nat → Prop} {h h' : MH} (a : FX nd Y h h') (s : ∀ q, Y q → Y' q) : FX nd Y' h h' := ⟨a.1, a.2.1, fun q hq => ⟨(a.2.2 q hq).1, (a.2.2 q hq).2.1, fun hn => (a.2.2 q hq).2.2 (fun z => hn (by
  rcases z with z | z | z | z
  · exact Or.inl z
  · exact Or.inr (Or.inl z)
  · exact Or.inr (Or.inr (Or.inl z))
  · exact Or.inr (Or.inr (Or.inr (s q z)))))⟩⟩
theorem FX.ofRX {nd : Nat} {Y : Nat → Prop} {h0 h : MH} {H : Nat → Nat → Int} (M : RX h0 h H) (e5 : H nd 5 = z_i h0 nd 5) (e : ∀ a, ¬ (a = nd ∨ a = h_r h0 nd 0 ∨ a = h_r h0 nd 1 ∨ Y a) → ∀ j, H a j = z_i h0 a j) : FX nd Y h0 h := by
  obtain ⟨m1, m2, ⟨m3, m4⟩, m5⟩ := M
  have z5 : z_i h nd 5 = z_i h0 nd 5 := (m5 nd 5).trans e5
  refine ⟨by unfold h_n; rw [m1]; exact Nat.le_refl _, ⟨fun k _ => Or.inl (by rw [m3]), by omega, fun j _ => by rw [m3, m4], fun j h1 h2 => absurd h2 (by omega)⟩, fun a _ => ⟨by rw [m2], fun k _ => by rw [m3], fun hn => ⟨fun j => ?_, fun j => by rw [m4]⟩⟩⟩
  show (h_i h a j).toInt = _
  rw [m5, e a hn]
-- a row or an object that stands apart is as it was
theorem FX.kp {nd : Nat} {Y : Nat → Prop} {h h' : MH} (a : FX nd Y h h') {q : Nat} (hq : q < 16 + h_n h) (n0 : q ≠ nd) (n1 : q ≠ h_r h nd 0) (n2 : q ≠ h_r h nd 1) (n3 : ¬ Y q) : (h_k h' q = h_k h q ∧ ∀ k, h_r h' q k = h_r h q k) ∧ (∀ j, z_i h' q j = z_i h q j) ∧ ∀ j, h_l h' q j = h_l h q j := by
  obtain ⟨x1, x2, x3⟩ := a.2.2 q hq
  exact ⟨⟨x1, fun k => x2 k (fun z => n0 z.1)⟩, x3 (fun z => by
    rcases z with z | z | z | z
    · exact n0 z
    · exact n1 z
    · exact n2 z
    · exact n3 z)⟩
def nl_ok (h : MH) (nd : Nat) : Prop := ((h_k h nd).1 = 3 ∧ 16 ≤ nd ∧ nd < 16 + h_n h) ∧ ((h_k h (h_r h nd 0)).1 = 20 ∧ 16 ≤ h_r h nd 0 ∧ h_r h nd 0 < 16 + h_n h) ∧ ((h_k h (h_r h nd 1)).1 = 25 ∧ 16 ≤ h_r h nd 1 ∧ h_r h nd 1 < 16 + h_n h) ∧ 7 * (h_k h (h_r h nd 1)).2 = (h_k h (h_r h nd 0)).2 ∧ (0 ≤ z_i h nd 5 ∧ z_i h nd 5 ≤ ((h_k h (h_r h nd 1)).2 : Int)) ∧ 64 ≤ (h_k h (h_r h nd 1)).2 ∧ (h_k h (h_r h nd 1)).2 ≤ 32000
-- apart from a Nodes and its rows
theorem nl_ap {h : MH} {nd a : Nat} (ok : nl_ok h nd) (ka : (h_k h a).1 = 20) (na : a ≠ h_r h nd 0) : a ≠ nd ∧ a ≠ h_r h nd 0 ∧ a ≠ h_r h nd 1 := ⟨fun z => by rw [z, ok.1.1] at ka; omega, na, fun z => by rw [z, ok.2.2.1.1] at ka; omega⟩
theorem nl_RX {h0 h : MH} {H : Nat → Nat → Int} {nd : Nat} (ok : nl_ok h0 nd) (M : RX h0 h H) (e : H nd 5 = z_i h0 nd 5) : nl_ok h nd := by
  obtain ⟨m1, m2, ⟨m3, m4⟩, m5⟩ := M
  have en : h_n h = h_n h0 := by unfold h_n; rw [m1]
  have e5 : z_i h nd 5 = z_i h0 nd 5 := (m5 nd 5).trans e
  unfold nl_ok
  rw [en, m2, m3, e5]
  exact ok
-- ROWS COPIED, FILLED
section
variable {lv : List (Nat × Value)} {Q : Option Value → MH → Prop} {h0 h : MH} {H : Nat → Nat → Int}
theorem hR_aa {i pc pc' : Nat} {st : List Value} {j : Int32} {zj : Int} {o : Nat} (M : RX h0 h H) (hk : (h_k h0 o).1 = 33) (hj : j.toInt = zj) (b0 : 0 ≤ zj) (b1 : zj < (h_k h0 o).2) (a : m_at i pc = some (.aaload, 1)) (hp : pc + 1 = pc') (g : HJ i pc' lv (.ref (h_r h0 o zj.toNat) :: st) h Q) : HJ i pc lv (.int j :: .ref o :: st) h Q := hI_aa a (by rw [M.2.1, hk]; decide) (by omega) (by rw [M.2.1]; omega) hp (by rw [hj, M.2.2.1.1]; exact g)
theorem k_copyI {o : Nat} {xn : Int32} (kc : (h_k h o).1 = 20) (o16 : 16 ≤ o) (ol : o < 16 + h_n h) (qn : xn.toInt = 2 * ((h_k h o).2 : Int)) (l0 : 1 ≤ (h_k h o).2) (l1 : (h_k h o).2 ≤ 112000) (g : ∀ h' : MH, h_n h' = h_n h + 1 → (∀ a, a < 16 + h_n h → h_k h' a = h_k h a ∧ (∀ k, h_r h' a k = h_r h a k) ∧ (∀ j, z_i h' a j = z_i h a j) ∧ ∀ j, h_l h' a j = h_l h a j) → h_k h' (16 + h_n h) = (20, 2 * (h_k h o).2) → (∀ j, j < (h_k h o).2 → z_i h' (16 + h_n h) j = z_i h o j) → Q (some (.ref (16 + h_n h))) h') : HJ 62 0 (lv_args 0 [.ref o, .int xn]) [] h Q := by
  have eL : (Int32.ofNat (h_k h o).2).toInt = ((h_k h o).2 : Int) := by
    rw [Int32.toInt_ofNat_of_lt]
    omega
  have hn : xn.toInt.toNat = 2 * (h_k h o).2 := by omega
  refine hI_il (k := 1) rfl rfl rfl ?_
  refine hI_al (k := 0) rfl rfl rfl ?_
  refine hI_len rfl (by rw [kc]; decide) rfl ?_
  refine hM_cne (t := 14) rfl qn eL (by decide) rfl (fun _ => ?_) (fun c => by omega)
  refine hI_il (k := 1) rfl rfl rfl ?_
  refine hI_newa (t := .int) rfl (by decide) (by omega) (by omega) rfl ?_
  rw [hn]
  have ek : h_k (h_new h 20 (2 * (h_k h o).2) (2 * (h_k h o).2)) o = h_k h o := nw_k (by omega)
  refine hI_as (k := 2) rfl (by decide +kernel) rfl ?_
  refine hI_al (k := 0) (x := o) rfl rfl rfl ?_
  refine hI_ic (n := 0) rfl rfl ?_
  refine hI_al (k := 2) (x := 16 + h_n h) rfl rfl rfl ?_
  refine hI_ic (n := 0) rfl rfl ?_
  refine hI_al (k := 0) (x := o) rfl rfl rfl ?_
  refine hI_len rfl ⟨by show 20 ≤ (h_k (h_new h 20 (2 * (h_k h o).2) (2 * (h_k h o).2)) o).1; rw [ek]; omega, by show (h_k (h_new h 20 (2 * (h_k h o).2) (2 * (h_k h o).2)) o).1 < 34; rw [ek]; omega⟩ rfl ?_
  refine hI_il (k := 1) (x := xn) rfl rfl rfl ?_
  refine hI_min rfl rfl ⟨rfl, by decide +kernel, by show 4 + 13 ≤ m_lo 62; decide +kernel⟩ rfl ?_
  have ew : (if xn < Int32.ofNat (h_k (h_new h 20 (2 * (h_k h o).2) (2 * (h_k h o).2)) o).2 then xn else Int32.ofNat (h_k (h_new h 20 (2 * (h_k h o).2) (2 * (h_k h o).2)) o).2) = Int32.ofNat (h_k h o).2 := by
    rw [ek]
    exact if_neg (fun z => by
      have := Int32.lt_iff_toInt_lt.mp z
      omega)
  show HJ 62 28 _ (.int (if xn < Int32.ofNat (h_k (h_new h 20 (2 * (h_k h o).2) (2 * (h_k h o).2)) o).2 then xn else Int32.ofNat (h_k (h_new h 20 (2 * (h_k h o).2) (2 * (h_k h o).2)) o).2) :: _) (h_new h 20 (2 * (h_k h o).2) (2 * (h_k h o).2)) Q
  rw [ew]
  have eN : (Int32.ofNat (h_k h o).2).toNatClampNeg = (h_k h o).2 := by
    show (Int32.ofNat (h_k h o).2).toInt.toNat = _
    omega
  have kN : h_k (h_new h 20 (2 * (h_k h o).2) (2 * (h_k h o).2)) (16 + h_n h) = (20, 2 * (h_k h o).2) := z_newk
  refine hI_cp (h' := h_cpi (h_new h 20 (2 * (h_k h o).2) (2 * (h_k h o).2)) o (16 + h_n h) 0 0 (h_k h o).2) rfl rfl ⟨o16, by omega, by decide, by decide, fun z => ?_, ?_, ?_, by decide +kernel, by decide +kernel, by decide +kernel⟩ (Or.inl ⟨by rw [ek, kc], by rw [kN], by rw [eN]; rfl⟩) rfl ?_
  · have := Int32.lt_iff_toInt_lt.mp z
    have h00 : (0 : Int32).toInt = 0 := rfl
    omega
  · rw [eN, ek]
    show 0 + (h_k h o).2 ≤ _
    omega
  · rw [eN, kN]
    show 0 + (h_k h o).2 ≤ 2 * (h_k h o).2
    omega
  · refine hI_al (k := 2) (x := 16 + h_n h) rfl rfl rfl ?_
    refine hI_ra rfl rfl (g _ rfl (fun a ha => ⟨nw_k (k := 20) (len := 2 * (h_k h o).2) (sz := 2 * (h_k h o).2) (by omega), fun k => nw_r (k := 20) (len := 2 * (h_k h o).2) (sz := 2 * (h_k h o).2) (by omega) k, fun j => ?_, fun j => nw_l (k := 20) (len := 2 * (h_k h o).2) (sz := 2 * (h_k h o).2) (by omega) j⟩) kN (fun j hj => ?_))
    · unfold z_i
      rw [s_cpI, if_neg (fun z => by have := z.1; omega), nw_i (by omega)]
    · unfold z_i
      rw [s_cpI, if_pos ⟨rfl, by omega, by omega⟩, nw_i (by omega)]
      simp
theorem s_cpL (h : MH) (a0 a1 s d n b j : Nat) : h_l (h_cpl h a0 a1 s d n) b j = if b = a1 ∧ (d ≤ j ∧ j < d + n) then h_l h a0 (s + (j - d)) else h_l h b j := by
  show m_u h.2.2.2.1 a1 (fun j => if d ≤ j ∧ j < d + n then h.2.2.2.1 a0 (s + (j - d)) else h.2.2.2.1 a1 j) b j = _
  unfold m_u
  by_cases e : b = a1
  · subst e
    rw [if_pos rfl]
    by_cases f : d ≤ j ∧ j < d + n
    · rw [if_pos f, if_pos ⟨rfl, f⟩]
      rfl
    · rw [if_neg f, if_neg (fun z => f z.2)]
      rfl
  · rw [if_neg e, if_neg (fun z => e z.1)]
    rfl
theorem k_copyL {o : Nat} {xn : Int32} (kc : (h_k h o).1 = 25) (o16 : 16 ≤ o) (ol : o < 16 + h_n h) (qn : xn.toInt = 2 * ((h_k h o).2 : Int)) (l0 : 1 ≤ (h_k h o).2) (l1 : (h_k h o).2 ≤ 16000) (g : ∀ h' : MH, h_n h' = h_n h + 1 → (∀ a, a < 16 + h_n h → h_k h' a = h_k h a ∧ (∀ k, h_r h' a k = h_r h a k) ∧ (∀ j, z_i h' a j = z_i h a j) ∧ ∀ j, h_l h' a j = h_l h a j) → h_k h' (16 + h_n h) = (25, 2 * (h_k h o).2) → (∀ j, j < (h_k h o).2 → h_l h' (16 + h_n h) j = h_l h o j) → Q (some (.ref (16 + h_n h))) h') : HJ 63 0 (lv_args 0 [.ref o, .int xn]) [] h Q := by
  have eL : (Int32.ofNat (h_k h o).2).toInt = ((h_k h o).2 : Int) := by
    rw [Int32.toInt_ofNat_of_lt]
    omega
  have hn : xn.toInt.toNat = 2 * (h_k h o).2 := by omega
  refine hI_il (k := 1) rfl rfl rfl ?_
  refine hI_al (k := 0) rfl rfl rfl ?_
  refine hI_len rfl (by rw [kc]; decide) rfl ?_
  refine hM_cne (t := 14) rfl qn eL (by decide) rfl (fun _ => ?_) (fun c => by omega)
  refine hI_il (k := 1) rfl rfl rfl ?_
  refine hI_newa (t := .long) rfl (by decide) (by omega) (by omega) rfl ?_
  rw [hn]
  have ek : h_k (h_new h 25 (2 * (h_k h o).2) (2 * (h_k h o).2)) o = h_k h o := nw_k (by omega)
  refine hI_as (k := 2) rfl (by decide +kernel) rfl ?_
  refine hI_al (k := 0) (x := o) rfl rfl rfl ?_
  refine hI_ic (n := 0) rfl rfl ?_
  refine hI_al (k := 2) (x := 16 + h_n h) rfl rfl rfl ?_
  refine hI_ic (n := 0) rfl rfl ?_
  refine hI_al (k := 0) (x := o) rfl rfl rfl ?_
  refine hI_len rfl ⟨by show 20 ≤ (h_k (h_new h 25 (2 * (h_k h o).2) (2 * (h_k h o).2)) o).1; rw [ek]; omega, by show (h_k (h_new h 25 (2 * (h_k h o).2) (2 * (h_k h o).2)) o).1 < 34; rw [ek]; omega⟩ rfl ?_
  refine hI_il (k := 1) (x := xn) rfl rfl rfl ?_
  refine hI_min rfl rfl ⟨rfl, by decide +kernel, by show 4 + 13 ≤ m_lo 63; decide +kernel⟩ rfl ?_
  have ew : (if xn < Int32.ofNat (h_k (h_new h 25 (2 * (h_k h o).2) (2 * (h_k h o).2)) o).2 then xn else Int32.ofNat (h_k (h_new h 25 (2 * (h_k h o).2) (2 * (h_k h o).2)) o).2) = Int32.ofNat (h_k h o).2 := by
    rw [ek]
    exact if_neg (fun z => by
      have := Int32.lt_iff_toInt_lt.mp z
      omega)
  show HJ 63 28 _ (.int (if xn < Int32.ofNat (h_k (h_new h 25 (2 * (h_k h o).2) (2 * (h_k h o).2)) o).2 then xn else Int32.ofNat (h_k (h_new h 25 (2 * (h_k h o).2) (2 * (h_k h o).2)) o).2) :: _) (h_new h 25 (2 * (h_k h o).2) (2 * (h_k h o).2)) Q
  rw [ew]
  have eN : (Int32.ofNat (h_k h o).2).toNatClampNeg = (h_k h o).2 := by
    show (Int32.ofNat (h_k h o).2).toInt.toNat = _
    omega
  have kN : h_k (h_new h 25 (2 * (h_k h o).2) (2 * (h_k h o).2)) (16 + h_n h) = (25, 2 * (h_k h o).2) := z_newk
  refine hI_cp (h' := h_cpl (h_new h 25 (2 * (h_k h o).2) (2 * (h_k h o).2)) o (16 + h_n h) 0 0 (h_k h o).2) rfl rfl ⟨o16, by omega, by decide, by decide, fun z => ?_, ?_, ?_, by decide +kernel, by decide +kernel, by decide +kernel⟩ (Or.inr ⟨by rw [ek, kc], by rw [kN], by rw [eN]; rfl⟩) rfl ?_
  · have := Int32.lt_iff_toInt_lt.mp z
    have h00 : (0 : Int32).toInt = 0 := rfl
    omega
  · rw [eN, ek]
    show 0 + (h_k h o).2 ≤ _
    omega
  · rw [eN, kN]
    show 0 + (h_k h o).2 ≤ 2 * (h_k h o).2
    omega
  · refine hI_al (k := 2) (x := 16 + h_n h) rfl rfl rfl ?_
    refine hI_ra rfl rfl (g _ rfl (fun a ha => ⟨nw_k (k := 25) (len := 2 * (h_k h o).2) (sz := 2 * (h_k h o).2) (by omega), fun k => nw_r (k := 25) (len := 2 * (h_k h o).2) (sz := 2 * (h_k h o).2) (by omega) k, fun j => congrArg Int32.toInt (nw_i (k := 25) (len := 2 * (h_k h o).2) (sz := 2 * (h_k h o).2) (by omega) j), fun j => ?_⟩) kN (fun j hj => ?_))
    · rw [s_cpL, if_neg (fun z => by have := z.1; omega), nw_l (by omega)]
    · rw [s_cpL, if_pos ⟨rfl, by omega, by omega⟩, nw_l (by omega)]
      simp
theorem r_fr0 {o : Nat} {f t z : Int} (M : RX h0 h H) (e0 : m_lk lv 0 = some (.ref o)) {lx1 : Int32} (e1 : m_lk lv 1 = some (.int lx1)) (lq1 : lx1.toInt = f) {lx2 : Int32} (e2 : m_lk lv 2 = some (.int lx2)) (lq2 : lx2.toInt = t) {lx3 : Int32} (e3 : m_lk lv 3 = some (.int lx3)) (lq3 : lx3.toInt = z)  (hz0 : 20 ≤ (h_k h0 o).1 ∧ (h_k h0 o).1 < 34) (hb0 : (h_k h0 o).2 < 2147483648)
    (g0 : ∀ x1 : Int32, x1.toInt = ((h_k h0 o).2 : Int) → HJ 38 0 (lv_args 0 [.int x1, .int lx1, .int lx2]) [] h (fun v h' => HJ 37 7 lv (v.toList ++ []) h' Q))
    : HJ 37 0 lv [] h Q := by
  refine hI_al (k := 0) rfl e0 rfl ?_ -- 0
  refine hR_al M hz0 hb0 rfl rfl (fun x1 q1 => ?_) -- 1
  refine hI_il (k := 1) rfl e1 rfl ?_ -- 2
  refine hI_il (k := 2) rfl e2 rfl ?_ -- 3
  refine hM_is0 (as := [.int x1, .int lx1, .int lx2]) (r := []) rfl rfl (by decide +kernel) rfl rfl rfl rfl rfl ?_ -- 4
  exact g0 x1 q1
theorem r_fr7 {o : Nat} {f t z : Int} (M : RX h0 h H) (e0 : m_lk lv 0 = some (.ref o)) {lx1 : Int32} (e1 : m_lk lv 1 = some (.int lx1)) (lq1 : lx1.toInt = f) {lx2 : Int32} (e2 : m_lk lv 2 = some (.int lx2)) (lq2 : lx2.toInt = t) {lx3 : Int32} (e3 : m_lk lv 3 = some (.int lx3)) (lq3 : lx3.toInt = z) 
    (g0 : ∀ lv1 : List (Nat × Value), m_lk lv1 0 = some (.ref o) → m_lk lv1 1 = some (.int lx1) → m_lk lv1 2 = some (.int lx2) → m_lk lv1 3 = some (.int lx3) → m_lk lv1 4 = some (.int lx1) → HJ 37 10 lv1 [] h Q)
    : HJ 37 7 lv [] h Q := by
  refine hI_il (k := 1) rfl e1 rfl ?_ -- 7
  refine hM_si2 (k := 4) rfl (by decide +kernel) rfl (fun lv1 e1_4 u1 => ?_) -- 8
  have e1_0 := u1 0 _ (by decide) (Or.inl rfl) e0
  have e1_1 := u1 1 _ (by decide) (Or.inl rfl) e1
  have e1_2 := u1 2 _ (by decide) (Or.inl rfl) e2
  have e1_3 := u1 3 _ (by decide) (Or.inl rfl) e3
  exact g0 lv1 e1_0 e1_1 e1_2 e1_3 e1_4
theorem r_fr10 {o : Nat} {t z i : Int} (M : RX h0 h H) (e0 : m_lk lv 0 = some (.ref o)) {lx2 : Int32} (e2 : m_lk lv 2 = some (.int lx2)) (lq2 : lx2.toInt = t) {lx3 : Int32} (e3 : m_lk lv 3 = some (.int lx3)) (lq3 : lx3.toInt = z) {lx4 : Int32} (e4 : m_lk lv 4 = some (.int lx4)) (lq4 : lx4.toInt = i) (i0 : 0 ≤ i) (t1 : t ≤ 1000000) (ha0 : (h_k h0 o).1 = 20) (hl0 : t ≤ ((h_k h0 o).2 : Int)) (hs0 : 16 ≤ o)
    (g0 : i ≥ t → Q none h)
    (g1 : ∀ h1 : MH, ∀ H1 : Nat → Nat → Int, H1 = m_u H o (m_u (H o) (i).toNat (z)) → ∀ x2 : Int32, x2.toInt = i + 1 → ∀ lv2 : List (Nat × Value), RX h0 h1 H1 → m_lk lv2 0 = some (.ref o) → m_lk lv2 2 = some (.int lx2) → m_lk lv2 3 = some (.int lx3) → m_lk lv2 4 = some (.int x2) → i < t → HJ 37 10 lv2 [] h1 Q)
    : HJ 37 10 lv [] h Q := by
  refine hI_il2 (k := 4) rfl e4 rfl ?_ -- 10
  refine hI_il (k := 2) rfl e2 rfl ?_ -- 12
  refine hM_cge (off := 14) (t := 27) rfl lq4 lq2 (by decide) rfl (fun c13 => ?_) (fun c13 => ?_) -- 13
  · refine hI_rv rfl rfl ?_
    exact g0 c13
  · refine hI_al (k := 0) rfl e0 rfl ?_ -- 16
    refine hI_il2 (k := 4) rfl e4 rfl ?_ -- 17
    refine hI_il (k := 3) rfl e3 rfl ?_ -- 19
    refine hR_is M hs0 ha0 lq4 lq3 (by omega) (by omega) rfl rfl (fun h1 H1 f1 M1 => ?_) -- 20
    refine hM_inc (k := 4) (z := 1) rfl e4 lq4 (by decide) (by omega) (by omega) (by decide +kernel) rfl (fun lv2 x2 q2 e2_4 u2 => ?_) -- 21
    have e2_0 := u2 0 _ (by decide) (Or.inl rfl) e0
    have e2_2 := u2 2 _ (by decide) (Or.inl rfl) e2
    have e2_3 := u2 3 _ (by decide) (Or.inl rfl) e3
    refine hI_go (pc' := 10) (off := (-14)) rfl (by decide) ?_ -- 24
    exact g1 h1 H1 f1 x2 q2 lv2 M1 e2_0 e2_2 e2_3 e2_4 c13
theorem r_fi0 {o : Nat} {z : Int} (M : RX h0 h H) (e0 : m_lk lv 0 = some (.ref o)) {lx1 : Int32} (e1 : m_lk lv 1 = some (.int lx1)) (lq1 : lx1.toInt = z)  (hz0 : 20 ≤ (h_k h0 o).1 ∧ (h_k h0 o).1 < 34) (hb0 : (h_k h0 o).2 < 2147483648)
    (g0 : ∀ x1 : Int32, x1.toInt = 0 → ∀ x3 : Int32, x3.toInt = ((h_k h0 o).2 : Int) → ∀ lv4 : List (Nat × Value), m_lk lv4 0 = some (.ref o) → m_lk lv4 1 = some (.int lx1) → m_lk lv4 2 = some (.int x1) → m_lk lv4 3 = some (.int x3) → HJ 48 5 lv4 [] h Q)
    : HJ 48 0 lv [] h Q := by
  refine hM_ic (n := 0) rfl (by decide) rfl (fun x1 q1 => ?_) -- 0
  refine hM_si (k := 2) rfl (by decide +kernel) rfl (fun lv2 e2_2 u2 => ?_) -- 1
  have e2_0 := u2 0 _ (by decide) (Or.inl rfl) e0
  have e2_1 := u2 1 _ (by decide) (Or.inl rfl) e1
  refine hI_al (k := 0) rfl e2_0 rfl ?_ -- 2
  refine hR_al M hz0 hb0 rfl rfl (fun x3 q3 => ?_) -- 3
  refine hM_si (k := 3) rfl (by decide +kernel) rfl (fun lv4 e4_3 u4 => ?_) -- 4
  have e4_0 := u4 0 _ (by decide) (Or.inl rfl) e2_0
  have e4_1 := u4 1 _ (by decide) (Or.inl rfl) e2_1
  have e4_2 := u4 2 _ (by decide) (Or.inl rfl) e2_2
  exact g0 x1 q1 x3 q3 lv4 e4_0 e4_1 e4_2 e4_3
theorem r_fi5 {o : Nat} {z i n : Int} (M : RX h0 h H) (e0 : m_lk lv 0 = some (.ref o)) {lx1 : Int32} (e1 : m_lk lv 1 = some (.int lx1)) (lq1 : lx1.toInt = z) {lx2 : Int32} (e2 : m_lk lv 2 = some (.int lx2)) (lq2 : lx2.toInt = i) {lx3 : Int32} (e3 : m_lk lv 3 = some (.int lx3)) (lq3 : lx3.toInt = n) (i0 : 0 ≤ i) (n1 : n ≤ 1000000) (ha0 : (h_k h0 o).1 = 20) (hl0 : n ≤ ((h_k h0 o).2 : Int)) (hs0 : 16 ≤ o)
    (g0 : i ≥ n → Q none h)
    (g1 : ∀ h1 : MH, ∀ H1 : Nat → Nat → Int, H1 = m_u H o (m_u (H o) (i).toNat (z)) → ∀ x2 : Int32, x2.toInt = i + 1 → ∀ lv2 : List (Nat × Value), RX h0 h1 H1 → m_lk lv2 0 = some (.ref o) → m_lk lv2 1 = some (.int lx1) → m_lk lv2 2 = some (.int x2) → m_lk lv2 3 = some (.int lx3) → i < n → HJ 48 5 lv2 [] h1 Q)
    : HJ 48 5 lv [] h Q := by
  refine hI_il (k := 2) rfl e2 rfl ?_ -- 5
  refine hI_il (k := 3) rfl e3 rfl ?_ -- 6
  refine hM_cge (off := 13) (t := 20) rfl lq2 lq3 (by decide) rfl (fun c7 => ?_) (fun c7 => ?_) -- 7
  · refine hI_rv rfl rfl ?_
    exact g0 c7
  · refine hI_al (k := 0) rfl e0 rfl ?_ -- 10
    refine hI_il (k := 2) rfl e2 rfl ?_ -- 11
    refine hI_il (k := 1) rfl e1 rfl ?_ -- 12
    refine hR_is M hs0 ha0 lq2 lq1 (by omega) (by omega) rfl rfl (fun h1 H1 f1 M1 => ?_) -- 13
    refine hM_inc (k := 2) (z := 1) rfl e2 lq2 (by decide) (by omega) (by omega) (by decide +kernel) rfl (fun lv2 x2 q2 e2_2 u2 => ?_) -- 14
    have e2_0 := u2 0 _ (by decide) (Or.inl rfl) e0
    have e2_1 := u2 1 _ (by decide) (Or.inl rfl) e1
    have e2_3 := u2 3 _ (by decide) (Or.inl rfl) e3
    refine hI_go (pc' := 5) (off := (-12)) rfl (by decide) ?_ -- 17
    exact g1 h1 H1 f1 x2 q2 lv2 M1 e2_0 e2_1 e2_2 e2_3 c7
theorem l_flR {o : Nat} {f t z : Int} {xt xz : Int32} {H0 : Nat → Nat → Int} (k20 : (h_k h0 o).1 = 20) (o16 : 16 ≤ o) (tl : t ≤ ((h_k h0 o).2 : Int)) (t1 : t ≤ 1000000) (f0 : 0 ≤ f) (qt : xt.toInt = t) (qz : xz.toInt = z) (g : ∀ (h' : MH) (H' : Nat → Nat → Int), RX h0 h' H' → (∀ a, a ≠ o → H' a = H0 a) → (∀ j : Nat, H' o j = if f ≤ (j : Int) ∧ (j : Int) < t then z else H0 o j) → Q none h') : ∀ (d : Nat) (i : Int) (lv : List (Nat × Value)) (h : MH) (H : Nat → Nat → Int) (xi : Int32), i + d = t → f ≤ i → xi.toInt = i → RX h0 h H → (∀ a, a ≠ o → H a = H0 a) → (∀ j : Nat, H o j = if f ≤ (j : Int) ∧ (j : Int) < i then z else H0 o j) → m_lk lv 0 = some (.ref o) → m_lk lv 2 = some (.int xt) → m_lk lv 3 = some (.int xz) → m_lk lv 4 = some (.int xi) → HJ 37 10 lv [] h Q := by
  intro d
  induction d with
  | zero =>
    intro i lv h H xi hd fi qi M p1 p2 e0 e2 e3 e4
    refine r_fr10 M e0 e2 qt e3 qz e4 qi (by omega) t1 k20 tl o16 (fun _ => g h H M p1 (fun j => ?_)) (fun _ _ _ _ _ _ _ _ _ _ _ c => absurd c (by omega))
    rw [p2 j, show i = t by omega]
  | succ d ih =>
    intro i lv h H xi hd fi qi M p1 p2 e0 e2 e3 e4
    refine r_fr10 M e0 e2 qt e3 qz e4 qi (by omega) t1 k20 tl o16 (fun c => absurd c (by omega)) (fun h1 H1 f1 x2 q2 lv2 M1 a0 a2 a3 a4 _ => ih (i + 1) lv2 h1 H1 x2 (by omega) (by omega) q2 M1 (fun a ha => by rw [f1, m_uN _ _ _ _ ha]; exact p1 a ha) (fun j => ?_) a0 a2 a3 a4)
    rw [f1, m_uE]
    by_cases e : j = i.toNat
    · rw [e, m_uE, if_pos (by omega)]
    · rw [m_uN _ _ _ _ e, p2 j]
      by_cases c : f ≤ (j : Int) ∧ (j : Int) < i
      · rw [if_pos c, if_pos (by omega)]
      · rw [if_neg c, if_neg (by omega)]
theorem k_fillr {o : Nat} {f t z : Int} {xf xt xz : Int32} (M : RX h0 h H) (k20 : (h_k h0 o).1 = 20) (o16 : 16 ≤ o) (lb : (h_k h0 o).2 ≤ 1000000) (qf : xf.toInt = f) (qt : xt.toInt = t) (qz : xz.toInt = z) (f0 : 0 ≤ f) (ft : f ≤ t) (tl : t ≤ ((h_k h0 o).2 : Int)) (g : ∀ (h' : MH) (H' : Nat → Nat → Int), RX h0 h' H' → (∀ a, a ≠ o → H' a = H a) → (∀ j : Nat, H' o j = if f ≤ (j : Int) ∧ (j : Int) < t then z else H o j) → Q none h') : HJ 37 0 (lv_args 0 [.ref o, .int xf, .int xt, .int xz]) [] h Q := by
  refine r_fr0 M rfl rfl qf rfl qt rfl qz (by omega) (by omega) (fun x1 q1 => c_rc (by omega) (by omega) (by omega) ?_)
  refine r_fr7 M rfl rfl qf rfl qt rfl qz (fun lv1 e0 e1 e2 e3 e4 => ?_)
  exact l_flR k20 o16 tl (by omega) f0 qt qz g (t - f).toNat f lv1 h H xf (by omega) (Int.le_refl _) qf M (fun _ _ => rfl) (fun j => by rw [if_neg (by omega)]) e0 e2 e3 e4
theorem l_fiR {o : Nat} {t z : Int} {xt xz : Int32} {H0 : Nat → Nat → Int} (k20 : (h_k h0 o).1 = 20) (o16 : 16 ≤ o) (tl : t = ((h_k h0 o).2 : Int)) (t1 : t ≤ 1000000) (qt : xt.toInt = t) (qz : xz.toInt = z) (g : ∀ (h' : MH) (H' : Nat → Nat → Int), RX h0 h' H' → (∀ a, a ≠ o → H' a = H0 a) → (∀ j : Nat, (j : Int) < t → H' o j = z) → Q none h') : ∀ (d : Nat) (i : Int) (lv : List (Nat × Value)) (h : MH) (H : Nat → Nat → Int) (xi : Int32), i + d = t → 0 ≤ i → xi.toInt = i → RX h0 h H → (∀ a, a ≠ o → H a = H0 a) → (∀ j : Nat, (j : Int) < i → H o j = z) → m_lk lv 0 = some (.ref o) → m_lk lv 1 = some (.int xz) → m_lk lv 2 = some (.int xi) → m_lk lv 3 = some (.int xt) → HJ 48 5 lv [] h Q := by
  intro d
  induction d with
  | zero =>
    intro i lv h H xi hd fi qi M p1 p2 e0 e1 e2 e3
    exact r_fi5 M e0 e1 qz e2 qi e3 qt fi t1 k20 (by omega) o16 (fun _ => g h H M p1 (fun j hj => p2 j (by omega))) (fun _ _ _ _ _ _ _ _ _ _ _ c => absurd c (by omega))
  | succ d ih =>
    intro i lv h H xi hd fi qi M p1 p2 e0 e1 e2 e3
    refine r_fi5 M e0 e1 qz e2 qi e3 qt fi t1 k20 (by omega) o16 (fun c => absurd c (by omega)) (fun h1 H1 f1 x2 q2 lv2 M1 a0 a1 a2 a3 _ => ih (i + 1) lv2 h1 H1 x2 (by omega) (by omega) q2 M1 (fun a ha => by rw [f1, m_uN _ _ _ _ ha]; exact p1 a ha) (fun j hj => ?_) a0 a1 a2 a3)
    rw [f1, m_uE]
    by_cases e : j = i.toNat
    · rw [e, m_uE]
    · rw [m_uN _ _ _ _ e]
      exact p2 j (by omega)
theorem k_fill {o : Nat} {z : Int} {xz : Int32} (M : RX h0 h H) (k20 : (h_k h0 o).1 = 20) (o16 : 16 ≤ o) (lb : (h_k h0 o).2 ≤ 1000000) (qz : xz.toInt = z) (g : ∀ (h' : MH) (H' : Nat → Nat → Int), RX h0 h' H' → (∀ a, a ≠ o → H' a = H a) → (∀ j : Nat, j < (h_k h0 o).2 → H' o j = z) → Q none h') : HJ 48 0 (lv_args 0 [.ref o, .int xz]) [] h Q := by
  refine r_fi0 M rfl rfl qz (by omega) (by omega) (fun x1 q1 x3 q3 lv4 e0 e1 e2 e3 => ?_)
  exact l_fiR (t := ((h_k h0 o).2 : Int)) k20 o16 rfl (by omega) q3 qz (fun h' H' M' p1 p2 => g h' H' M' p1 (fun j hj => p2 j (by omega))) (h_k h0 o).2 0 lv4 h H x1 (by omega) (Int.le_refl _) q1 M (fun _ _ => rfl) (fun j hj => by omega) e0 e1 e2 e3
-- A NODE MADE
theorem r_mk0 {nd : Nat} {w r : Int} (M : RX h0 h H) (e0 : m_lk lv 0 = some (.ref nd)) {lx1 : Int32} (e1 : m_lk lv 1 = some (.int lx1)) (lq1 : lx1.toInt = w) {lx2 : Int32} (e2 : m_lk lv 2 = some (.int lx2)) (lq2 : lx2.toInt = r)  (hk0 : (h_k h0 nd).1 = 3) (hz0 : 20 ≤ (h_k h0 (h_r h0 nd 1)).1 ∧ (h_k h0 (h_r h0 nd 1)).1 < 34) (hb0 : (h_k h0 (h_r h0 nd 1)).2 < 2147483648)
    (g0 : H nd 5 < ((h_k h0 (h_r h0 nd 1)).2 : Int) → HJ 61 48 lv [] h Q)
    (g1 : H nd 5 ≥ ((h_k h0 (h_r h0 nd 1)).2 : Int) → HJ 61 12 lv [] h Q)
    : HJ 61 0 lv [] h Q := by
  refine hI_al (k := 0) rfl e0 rfl ?_ -- 0
  refine hR_gi (c := 2) (k := 5) M hk0 rfl rfl rfl rfl (fun x1 q1 => ?_) -- 1
  have gb1 : -2147483648 ≤ H nd 5 ∧ H nd 5 ≤ 2147483647 := by rw [← q1]; exact g_iT _
  refine hI_al (k := 0) rfl e0 rfl ?_ -- 4
  refine hR_gr (c := 2) (k := 1) M hk0 rfl rfl rfl rfl ?_ -- 5
  refine hR_al M hz0 hb0 rfl rfl (fun x2 q2 => ?_) -- 8
  refine hM_clt (off := 39) (t := 48) rfl q1 q2 (by decide) rfl (fun c9 => ?_) (fun c9 => ?_) -- 9
  · exact g0 c9
  · exact g1 c9
theorem r_mk12 {nd : Nat} {w r : Int} (M : RX h0 h H) (e0 : m_lk lv 0 = some (.ref nd)) {lx1 : Int32} (e1 : m_lk lv 1 = some (.int lx1)) (lq1 : lx1.toInt = w) {lx2 : Int32} (e2 : m_lk lv 2 = some (.int lx2)) (lq2 : lx2.toInt = r) (l1 : ((h_k h0 (h_r h0 nd 0)).2 : Int) ≤ 224000) (hk0 : (h_k h0 nd).1 = 3) (hz0 : 20 ≤ (h_k h0 (h_r h0 nd 0)).1 ∧ (h_k h0 (h_r h0 nd 0)).1 < 34) (hb0 : (h_k h0 (h_r h0 nd 0)).2 < 2147483648)
    (g0 : ∀ x3 : Int32, x3.toInt = (((h_k h0 (h_r h0 nd 0)).2 : Int)) * 2 → HJ 62 0 (lv_args 0 [.ref (h_r h0 nd 0), .int x3]) [] h (fun v h' => HJ 61 27 lv (v.toList ++ [.ref nd]) h' Q))
    : HJ 61 12 lv [] h Q := by
  refine hI_al (k := 0) rfl e0 rfl ?_ -- 12
  refine hI_al (k := 0) rfl e0 rfl ?_ -- 13
  refine hR_gr (c := 2) (k := 0) M hk0 rfl rfl rfl rfl ?_ -- 14
  refine hI_al (k := 0) rfl e0 rfl ?_ -- 17
  refine hR_gr (c := 2) (k := 0) M hk0 rfl rfl rfl rfl ?_ -- 18
  refine hR_al M hz0 hb0 rfl rfl (fun x1 q1 => ?_) -- 21
  refine hM_ic (n := 2) rfl (by decide) rfl (fun x2 q2 => ?_) -- 22
  refine hM_mul rfl q1 q2 (by omega) (by omega) rfl (fun x3 q3 => ?_) -- 23
  refine hM_is0 (as := [.ref (h_r h0 nd 0), .int x3]) (r := [.ref nd]) rfl rfl (by decide +kernel) rfl rfl rfl rfl rfl ?_ -- 24
  exact g0 x3 q3
theorem r_mk30 {nd : Nat} {w r : Int} (M : RX h0 h H) (e0 : m_lk lv 0 = some (.ref nd)) {lx1 : Int32} (e1 : m_lk lv 1 = some (.int lx1)) (lq1 : lx1.toInt = w) {lx2 : Int32} (e2 : m_lk lv 2 = some (.int lx2)) (lq2 : lx2.toInt = r) (l1 : ((h_k h0 (h_r h0 nd 1)).2 : Int) ≤ 32000) (hk0 : (h_k h0 nd).1 = 3) (hz0 : 20 ≤ (h_k h0 (h_r h0 nd 1)).1 ∧ (h_k h0 (h_r h0 nd 1)).1 < 34) (hb0 : (h_k h0 (h_r h0 nd 1)).2 < 2147483648)
    (g0 : ∀ x3 : Int32, x3.toInt = (((h_k h0 (h_r h0 nd 1)).2 : Int)) * 2 → HJ 63 0 (lv_args 0 [.ref (h_r h0 nd 1), .int x3]) [] h (fun v h' => HJ 61 45 lv (v.toList ++ [.ref nd]) h' Q))
    : HJ 61 30 lv [] h Q := by
  refine hI_al (k := 0) rfl e0 rfl ?_ -- 30
  refine hI_al (k := 0) rfl e0 rfl ?_ -- 31
  refine hR_gr (c := 2) (k := 1) M hk0 rfl rfl rfl rfl ?_ -- 32
  refine hI_al (k := 0) rfl e0 rfl ?_ -- 35
  refine hR_gr (c := 2) (k := 1) M hk0 rfl rfl rfl rfl ?_ -- 36
  refine hR_al M hz0 hb0 rfl rfl (fun x1 q1 => ?_) -- 39
  refine hM_ic (n := 2) rfl (by decide) rfl (fun x2 q2 => ?_) -- 40
  refine hM_mul rfl q1 q2 (by omega) (by omega) rfl (fun x3 q3 => ?_) -- 41
  refine hM_is0 (as := [.ref (h_r h0 nd 1), .int x3]) (r := [.ref nd]) rfl rfl (by decide +kernel) rfl rfl rfl rfl rfl ?_ -- 42
  exact g0 x3 q3
theorem r_mk48 {nd : Nat} {w r : Int} (M : RX h0 h H) (e0 : m_lk lv 0 = some (.ref nd)) {lx1 : Int32} (e1 : m_lk lv 1 = some (.int lx1)) (lq1 : lx1.toInt = w) {lx2 : Int32} (e2 : m_lk lv 2 = some (.int lx2)) (lq2 : lx2.toInt = r) (m2 : H nd 5 ≤ 15999) (m0 : 0 ≤ H nd 5) (hk0 : (h_k h0 nd).1 = 3)
    (g0 : ∀ x1 : Int32, x1.toInt = H nd 5 → ∀ h6 : MH, ∀ H6 : Nat → Nat → Int, H6 = m_u H nd (m_u (H nd) 5 ((H nd 5) + 1)) → ∀ lv2 : List (Nat × Value), RX h0 h6 H6 → m_lk lv2 0 = some (.ref nd) → m_lk lv2 1 = some (.int lx1) → m_lk lv2 2 = some (.int lx2) → m_lk lv2 3 = some (.int x1) → HJ 61 69 lv2 [.long (Int64.ofNat (0 : Fin 2).val), .int x1, .ref (h_r h0 nd 1)] h6 Q)
    : HJ 61 48 lv [] h Q := by
  refine hI_al (k := 0) rfl e0 rfl ?_ -- 48
  refine hR_gi (c := 2) (k := 5) M hk0 rfl rfl rfl rfl (fun x1 q1 => ?_) -- 49
  have gb1 : -2147483648 ≤ H nd 5 ∧ H nd 5 ≤ 2147483647 := by rw [← q1]; exact g_iT _
  refine hM_si (k := 3) rfl (by decide +kernel) rfl (fun lv2 e2_3 u2 => ?_) -- 52
  have e2_0 := u2 0 _ (by decide) (Or.inl rfl) e0
  have e2_1 := u2 1 _ (by decide) (Or.inl rfl) e1
  have e2_2 := u2 2 _ (by decide) (Or.inl rfl) e2
  refine hI_al (k := 0) rfl e2_0 rfl ?_ -- 53
  refine hI_dup rfl rfl rfl ?_ -- 54
  refine hR_gi (c := 2) (k := 5) M hk0 rfl rfl rfl rfl (fun x3 q3 => ?_) -- 55
  have gb3 : -2147483648 ≤ H nd 5 ∧ H nd 5 ≤ 2147483647 := by rw [← q3]; exact g_iT _
  refine hM_ic (n := 1) rfl (by decide) rfl (fun x4 q4 => ?_) -- 58
  refine hM_add rfl q3 q4 (by omega) (by omega) rfl (fun x5 q5 => ?_) -- 59
  refine hR_pi (c := 2) (k := 5) M hk0 rfl rfl ⟨by decide, by decide +kernel, rfl⟩ q5 rfl (fun h6 H6 f6 M6 => ?_) -- 60
  refine hI_al (k := 0) rfl e2_0 rfl ?_ -- 63
  refine hR_gr (c := 2) (k := 1) M6 hk0 rfl rfl rfl rfl ?_ -- 64
  refine hI_il (k := 3) rfl e2_3 rfl ?_ -- 67
  refine hI_lc (n := 0) rfl rfl ?_ -- 68
  exact g0 x1 q1 h6 H6 f6 lv2 M6 e2_0 e2_1 e2_2 e2_3
theorem r_mk70 {nd : Nat} {w r n : Int} (M : RX h0 h H) (e0 : m_lk lv 0 = some (.ref nd)) {lx1 : Int32} (e1 : m_lk lv 1 = some (.int lx1)) (lq1 : lx1.toInt = w) {lx2 : Int32} (e2 : m_lk lv 2 = some (.int lx2)) (lq2 : lx2.toInt = r) {lx3 : Int32} (e3 : m_lk lv 3 = some (.int lx3)) (lq3 : lx3.toInt = n) (n0 : 0 ≤ n) (n1 : n ≤ 15999) (hk0 : (h_k h0 nd).1 = 3) (ha0 : (h_k h0 (h_r h0 nd 0)).1 = 20) (hl0 : 7 * n + 7 ≤ ((h_k h0 (h_r h0 nd 0)).2 : Int)) (hs0 : 16 ≤ h_r h0 nd 0)
    (g0 : ∀ x2 : Int32, x2.toInt = n * 7 → ∀ h6 : MH, ∀ H6 : Nat → Nat → Int, H6 = m_u H (h_r h0 nd 0) (m_u (H (h_r h0 nd 0)) ((n * 7) + 0).toNat (w)) → ∀ h9 : MH, ∀ H9 : Nat → Nat → Int, H9 = m_u H6 (h_r h0 nd 0) (m_u (H6 (h_r h0 nd 0)) ((n * 7) + 1).toNat (r)) → ∀ x11 : Int32, x11.toInt = (n * 7) + 2 → ∀ x13 : Int32, x13.toInt = (n * 7) + 7 → ∀ x14 : Int32, x14.toInt = (-1) → ∀ lv3 : List (Nat × Value), RX h0 h9 H9 → m_lk lv3 0 = some (.ref nd) → m_lk lv3 1 = some (.int lx1) → m_lk lv3 2 = some (.int lx2) → m_lk lv3 3 = some (.int lx3) → m_lk lv3 4 = some (.int x2) → HJ 37 0 (lv_args 0 [.ref (h_r h0 nd 0), .int x11, .int x13, .int x14]) [] h9 (fun v h' => HJ 61 113 lv3 (v.toList ++ []) h' Q))
    : HJ 61 70 lv [] h Q := by
  refine hI_il (k := 3) rfl e3 rfl ?_ -- 70
  refine hM_bp (n := 7) rfl (by decide) rfl (fun x1 q1 => ?_) -- 71
  refine hM_mul rfl lq3 q1 (by omega) (by omega) rfl (fun x2 q2 => ?_) -- 73
  refine hM_si2 (k := 4) rfl (by decide +kernel) rfl (fun lv3 e3_4 u3 => ?_) -- 74
  have e3_0 := u3 0 _ (by decide) (Or.inl rfl) e0
  have e3_1 := u3 1 _ (by decide) (Or.inl rfl) e1
  have e3_2 := u3 2 _ (by decide) (Or.inl rfl) e2
  have e3_3 := u3 3 _ (by decide) (Or.inl rfl) e3
  refine hI_al (k := 0) rfl e3_0 rfl ?_ -- 76
  refine hR_gr (c := 2) (k := 0) M hk0 rfl rfl rfl rfl ?_ -- 77
  refine hI_il2 (k := 4) rfl e3_4 rfl ?_ -- 80
  refine hM_ic (n := 0) rfl (by decide) rfl (fun x4 q4 => ?_) -- 82
  refine hM_add rfl q2 q4 (by omega) (by omega) rfl (fun x5 q5 => ?_) -- 83
  refine hI_il (k := 1) rfl e3_1 rfl ?_ -- 84
  refine hR_is M hs0 ha0 q5 lq1 (by omega) (by omega) rfl rfl (fun h6 H6 f6 M6 => ?_) -- 85
  refine hI_al (k := 0) rfl e3_0 rfl ?_ -- 86
  refine hR_gr (c := 2) (k := 0) M6 hk0 rfl rfl rfl rfl ?_ -- 87
  refine hI_il2 (k := 4) rfl e3_4 rfl ?_ -- 90
  refine hM_ic (n := 1) rfl (by decide) rfl (fun x7 q7 => ?_) -- 92
  refine hM_add rfl q2 q7 (by omega) (by omega) rfl (fun x8 q8 => ?_) -- 93
  refine hI_il (k := 2) rfl e3_2 rfl ?_ -- 94
  refine hR_is M6 hs0 ha0 q8 lq2 (by omega) (by omega) rfl rfl (fun h9 H9 f9 M9 => ?_) -- 95
  refine hI_al (k := 0) rfl e3_0 rfl ?_ -- 96
  refine hR_gr (c := 2) (k := 0) M9 hk0 rfl rfl rfl rfl ?_ -- 97
  refine hI_il2 (k := 4) rfl e3_4 rfl ?_ -- 100
  refine hM_ic (n := 2) rfl (by decide) rfl (fun x10 q10 => ?_) -- 102
  refine hM_add rfl q2 q10 (by omega) (by omega) rfl (fun x11 q11 => ?_) -- 103
  refine hI_il2 (k := 4) rfl e3_4 rfl ?_ -- 104
  refine hM_bp (n := 7) rfl (by decide) rfl (fun x12 q12 => ?_) -- 106
  refine hM_add rfl q2 q12 (by omega) (by omega) rfl (fun x13 q13 => ?_) -- 108
  refine hM_ic (n := (-1)) rfl (by decide) rfl (fun x14 q14 => ?_) -- 109
  refine hM_is0 (as := [.ref (h_r h0 nd 0), .int x11, .int x13, .int x14]) (r := []) rfl rfl (by decide +kernel) rfl rfl rfl rfl rfl ?_ -- 110
  exact g0 x2 q2 h6 H6 f6 h9 H9 f9 x11 q11 x13 q13 x14 q14 lv3 M9 e3_0 e3_1 e3_2 e3_3 e3_4
theorem r_mk113 {n : Int} (M : RX h0 h H) {lx3 : Int32} (e3 : m_lk lv 3 = some (.int lx3)) (lq3 : lx3.toInt = n) 
    (g0 : Q (some (.int lx3)) h)
    : HJ 61 113 lv [] h Q := by
  refine hI_il (k := 3) rfl e3 rfl ?_ -- 113
  refine hI_ri rfl rfl ?_ -- 114
  exact g0 
def mk_to (h h' : MH) (nd : Nat) (w r : Int) : Prop := nl_ok h' nd ∧ FX nd (fun _ => False) h h' ∧ z_i h' nd 5 = z_i h nd 5 + 1 ∧ (∀ k, k ≠ 5 → z_i h' nd k = z_i h nd k) ∧ (∀ j : Nat, (j : Int) < 7 * z_i h nd 5 → z_i h' (h_r h' nd 0) j = z_i h (h_r h nd 0) j) ∧ z_i h' (h_r h' nd 0) (7 * (z_i h nd 5).toNat) = w ∧ z_i h' (h_r h' nd 0) (7 * (z_i h nd 5).toNat + 1) = r ∧ (∀ j : Nat, (j : Int) < z_i h nd 5 → h_l h' (h_r h' nd 1) j = h_l h (h_r h nd 1) j) ∧ h_l h' (h_r h' nd 1) (z_i h nd 5).toNat = 0
theorem k_make48 {nd : Nat} {w r : Int} {xw xr : Int32} (ok : nl_ok h nd) (cap : z_i h nd 5 < ((h_k h (h_r h nd 1)).2 : Int)) (c2 : z_i h nd 5 ≤ 15999) (e0 : m_lk lv 0 = some (.ref nd)) (e1 : m_lk lv 1 = some (.int xw)) (qw : xw.toInt = w) (e2 : m_lk lv 2 = some (.int xr)) (qr : xr.toInt = r) (g : ∀ (x : Int32) (h' : MH), x.toInt = z_i h nd 5 → mk_to h h' nd w r → Q (some (.int x)) h') : HJ 61 48 lv [] h Q := by
  obtain ⟨⟨o1, o2, o3⟩, ⟨c1, c16, cl⟩, ⟨d1, d16, dl⟩, l1, ⟨m0, m1⟩, l2, l3⟩ := ok
  refine r_mk48 (RX.start h) e0 e1 qw e2 qr c2 m0 o1 (fun x1 q1 h6 H6 f6 lv2 M6 a0 a1 a2 a3 => ?_)
  have q1 : x1.toInt = z_i h nd 5 := q1
  obtain ⟨m61, m62, ⟨m63, m64⟩, m65⟩ := M6
  have n6 : h_n h6 = h_n h := by unfold h_n; rw [m61]
  refine hI_ls_ rfl d16 (by rw [m62]; exact d1) (by omega) (by rw [m62]; omega) rfl ?_
  have s7k : h_k (h_sl h6 (h_r h nd 1) x1.toInt.toNat (Int64.ofNat (0 : Fin 2).val)) = h_k h := m62
  have s7r : h_r (h_sl h6 (h_r h nd 1) x1.toInt.toNat (Int64.ofNat (0 : Fin 2).val)) = h_r h := m63
  have s7i : ∀ a j, z_i (h_sl h6 (h_r h nd 1) x1.toInt.toNat (Int64.ofNat (0 : Fin 2).val)) a j = H6 a j := m65
  have s7n : h_n (h_sl h6 (h_r h nd 1) x1.toInt.toNat (Int64.ofNat (0 : Fin 2).val)) = h_n h := n6
  have s7l : ∀ a j, h_l (h_sl h6 (h_r h nd 1) x1.toInt.toNat (Int64.ofNat (0 : Fin 2).val)) a j = if a = h_r h nd 1 ∧ j = x1.toInt.toNat then 0 else h_l h a j := fun a j => by
    show m_u h6.2.2.2.1 (h_r h nd 1) (m_u (h6.2.2.2.1 (h_r h nd 1)) x1.toInt.toNat (Int64.ofNat (0 : Fin 2).val)) a j = _
    have m64 : h6.2.2.2.1 = h_l h := m64
    rw [m64]
    by_cases ea : a = h_r h nd 1
    · subst ea
      rw [m_uE]
      by_cases ej : j = x1.toInt.toNat
      · rw [if_pos ⟨rfl, ej⟩, ej, m_uE]
        rfl
      · rw [if_neg (fun z => ej z.2), m_uN _ _ _ _ ej]
    · rw [if_neg (fun z => ea z.1), m_uN _ _ _ _ ea]
  generalize h_sl h6 (h_r h nd 1) x1.toInt.toNat (Int64.ofNat (0 : Fin 2).val) = h7 at s7k s7r s7i s7n s7l ⊢
  refine r_mk70 (nd := nd) (n := z_i h nd 5) (RX.start h7) a0 a1 qw a2 qr a3 q1 m0 c2 (by rw [s7k]; exact o1) (by rw [s7k, s7r]; exact c1) (by rw [s7k, s7r]; omega) (by rw [s7r]; exact c16) (fun x2 q2 h8 H8 f8 h9 H9 f9 x11 q11 x13 q13 x14 q14 lv3 M9 b0 b1 b2 b3 b4 => ?_)
  rw [s7r] at f8 f9 ⊢
  refine k_fillr (o := h_r h nd 0) M9 (by rw [s7k]; exact c1) c16 (by rw [s7k]; omega) q11 q13 q14 (by omega) (by omega) (by rw [s7k]; omega) (fun h' H' M' p1 p2 => r_mk113 M' b3 q1 (g x1 h' q1 ?_))
  have nC : nd ≠ h_r h nd 0 := fun z => by rw [← z] at c1; omega
  have e8 : ∀ a, a ≠ h_r h nd 0 → ∀ j, H' a j = H6 a j := fun a ha j => by
    rw [p1 a ha, f9, m_uN _ _ _ _ ha, f8, m_uN _ _ _ _ ha]
    exact s7i a j
  have r' : h_r h' = h_r h := M'.2.2.1.1.trans s7r
  have k' : h_k h' = h_k h := M'.2.1.trans s7k
  have l' : ∀ a j, h_l h' a j = if a = h_r h nd 1 ∧ j = x1.toInt.toNat then 0 else h_l h a j := fun a j => by rw [M'.2.2.1.2]; exact s7l a j
  have n' : h_n h' = h_n h := by
    have : h'.1 = h7.1 := M'.1
    unfold h_n at s7n ⊢
    rw [this, s7n]
  have i5 : z_i h' nd 5 = z_i h nd 5 + 1 := by
    rw [M'.zi, e8 nd nC, f6]
    rw [m_uE, m_uE]
    rfl
  have eC : ∀ j : Nat, z_i h' (h_r h nd 0) j = if z_i h nd 5 * 7 + 2 ≤ (j : Int) ∧ (j : Int) < z_i h nd 5 * 7 + 7 then -1 else if j = (z_i h nd 5 * 7 + 1).toNat then r else if j = (z_i h nd 5 * 7 + 0).toNat then w else z_i h (h_r h nd 0) j := fun j => by
    rw [M'.zi, p2 j]
    by_cases c : z_i h nd 5 * 7 + 2 ≤ (j : Int) ∧ (j : Int) < z_i h nd 5 * 7 + 7
    · rw [if_pos c, if_pos c]
    · rw [if_neg c, if_neg c, f9, m_uE]
      by_cases c : j = (z_i h nd 5 * 7 + 1).toNat
      · rw [if_pos c, c, m_uE]
      · rw [if_neg c, m_uN _ _ _ _ c, f8, m_uE]
        by_cases c : j = (z_i h nd 5 * 7 + 0).toNat
        · rw [if_pos c, c, m_uE]
        · rw [if_neg c, m_uN _ _ _ _ c]
          refine (s7i _ j).trans ?_
          rw [f6, m_uN _ _ _ _ (Ne.symm nC)]
          rfl
  have q1N : x1.toInt.toNat = (z_i h nd 5).toNat := by rw [q1]
  refine ⟨?_, ⟨by omega, ⟨fun k _ => Or.inl (by rw [r']), by omega, fun j hj => by rw [r', l', if_neg (fun z => by have := z.2; omega)], fun j h1 h2 => by rw [r', l', if_pos ⟨rfl, by omega⟩]⟩, fun a _ => ⟨by rw [k'], fun k _ => by rw [r'], fun hn => ⟨fun j => ?_, fun j => ?_⟩⟩⟩, i5, fun k hk => ?_, fun j hj => ?_, ?_, ?_, fun j hj => ?_, ?_⟩
  · unfold nl_ok
    rw [n', k', r', i5]
    exact ⟨⟨o1, o2, o3⟩, ⟨c1, c16, cl⟩, ⟨d1, d16, dl⟩, l1, ⟨by omega, by omega⟩, l2, l3⟩
  · have a1 : a ≠ nd := fun z => hn (Or.inl z)
    have a2 : a ≠ h_r h nd 0 := fun z => hn (Or.inr (Or.inl z))
    rw [M'.zi, e8 a a2, f6]
    rw [m_uN _ _ _ _ a1]
    rfl
  · rw [l', if_neg (fun z => hn (Or.inr (Or.inr (Or.inl z.1))))]
  · rw [M'.zi, e8 nd nC, f6]
    rw [m_uE, m_uN _ _ _ _ hk]
    rfl
  · rw [r', eC j, if_neg (by omega), if_neg (by omega), if_neg (by omega)]
  · rw [r', eC _, if_neg (by omega), if_neg (by omega), if_pos (by omega)]
  · rw [r', eC _, if_neg (by omega), if_pos (by omega)]
  · rw [r', l', if_neg (fun z => by have := z.2; omega)]
  · rw [r', l', if_pos ⟨rfl, q1N.symm⟩]
theorem k_make {nd : Nat} {w r : Int} {xw xr : Int32} (ok : nl_ok h nd) (c2 : z_i h nd 5 ≤ 15999) (qw : xw.toInt = w) (qr : xr.toInt = r) (g : ∀ (x : Int32) (h' : MH), x.toInt = z_i h nd 5 → mk_to h h' nd w r → Q (some (.int x)) h') : HJ 61 0 (lv_args 0 [.ref nd, .int xw, .int xr]) [] h Q := by
  have ok0 := ok
  obtain ⟨⟨o1, o2, o3⟩, ⟨c1, c16, cl⟩, ⟨d1, d16, dl⟩, l1, ⟨m0, m1⟩, l2, l3⟩ := ok
  refine r_mk0 (RX.start h) rfl rfl qw rfl qr o1 (by omega) (by omega) (fun c => k_make48 ok0 c c2 rfl rfl qw rfl qr g) (fun c => ?_)
  have c : z_i h nd 5 ≥ ((h_k h (h_r h nd 1)).2 : Int) := c
  refine r_mk12 (RX.start h) rfl rfl qw rfl qr (by omega) o1 (by omega) (by omega) (fun x3 q3 => k_copyI c1 c16 cl (by omega) (by omega) (by omega) (fun h1 n1 s1 k1 t1 => ?_))
  refine hI_pr (o := nd) rfl rfl (by decide +kernel) (by rw [(s1 nd o3).1]; exact o1) rfl ?_
  have f2r : ∀ a j, h_r (h_sr h1 nd 0 (16 + h_n h)) a j = if a = nd ∧ j = 0 then 16 + h_n h else h_r h1 a j := fun a j => s_srR _ _ _ _ _ _
  have f2k : ∀ a, h_k (h_sr h1 nd 0 (16 + h_n h)) a = h_k h1 a := fun _ => rfl
  have f2i : ∀ a j, z_i (h_sr h1 nd 0 (16 + h_n h)) a j = z_i h1 a j := fun _ _ => rfl
  have f2l : ∀ a j, h_l (h_sr h1 nd 0 (16 + h_n h)) a j = h_l h1 a j := fun _ _ => rfl
  have f2n : h_n (h_sr h1 nd 0 (16 + h_n h)) = h_n h + 1 := n1
  generalize h_sr h1 nd 0 (16 + h_n h) = h2 at f2r f2k f2i f2l f2n ⊢
  have r21 : h_r h2 nd 1 = h_r h nd 1 := by rw [f2r, if_neg (fun z => by have := z.2; omega)]; exact (s1 nd o3).2.1 1
  have kD : h_k h2 (h_r h nd 1) = h_k h (h_r h nd 1) := (f2k _).trans (s1 _ dl).1
  refine r_mk30 (nd := nd) (RX.start h2) rfl rfl qw rfl qr (by rw [r21, kD]; omega) (by rw [f2k, (s1 nd o3).1]; exact o1) (by rw [r21, kD]; omega) (by rw [r21, kD]; omega) (fun x4 q4 => ?_)
  rw [r21] at q4 ⊢
  rw [kD] at q4
  refine k_copyL (by rw [kD]; exact d1) d16 (by omega) (by rw [kD]; omega) (by rw [kD]; omega) (by rw [kD]; omega) (fun h3 n3 s3 k3 t3 => ?_)
  rw [kD] at k3 t3
  refine hI_pr (o := nd) rfl rfl (by decide +kernel) (by rw [(s3 nd (by omega)).1, f2k, (s1 nd o3).1]; exact o1) rfl ?_
  have f4r : ∀ a j, h_r (h_sr h3 nd 1 (16 + h_n h2)) a j = if a = nd ∧ j = 1 then 16 + h_n h2 else h_r h3 a j := fun a j => s_srR _ _ _ _ _ _
  have f4k : ∀ a, h_k (h_sr h3 nd 1 (16 + h_n h2)) a = h_k h3 a := fun _ => rfl
  have f4i : ∀ a j, z_i (h_sr h3 nd 1 (16 + h_n h2)) a j = z_i h3 a j := fun _ _ => rfl
  have f4l : ∀ a j, h_l (h_sr h3 nd 1 (16 + h_n h2)) a j = h_l h3 a j := fun _ _ => rfl
  have f4n : h_n (h_sr h3 nd 1 (16 + h_n h2)) = h_n h2 + 1 := n3
  generalize h_sr h3 nd 1 (16 + h_n h2) = h4 at f4r f4k f4i f4l f4n ⊢
  have K : ∀ a, a < 16 + h_n h → h_k h4 a = h_k h a := fun a ha => by rw [f4k, (s3 a (by omega)).1, f2k, (s1 a ha).1]
  have R : ∀ a j, a < 16 + h_n h → ¬ (a = nd ∧ j < 2) → h_r h4 a j = h_r h a j := fun a j ha hn => by rw [f4r, if_neg (fun z => hn ⟨z.1, by omega⟩), (s3 a (by omega)).2.1, f2r, if_neg (fun z => hn ⟨z.1, by omega⟩), (s1 a ha).2.1]
  have I : ∀ a j, a < 16 + h_n h → z_i h4 a j = z_i h a j := fun a j ha => by rw [f4i, (s3 a (by omega)).2.2.1, f2i, (s1 a ha).2.2.1]
  have L : ∀ a j, a < 16 + h_n h → h_l h4 a j = h_l h a j := fun a j ha => by rw [f4l, (s3 a (by omega)).2.2.2, f2l, (s1 a ha).2.2.2]
  have r40 : h_r h4 nd 0 = 16 + h_n h := by rw [f4r, if_neg (fun z => by have := z.2; omega), (s3 nd (by omega)).2.1, f2r, if_pos ⟨rfl, rfl⟩]
  have r41 : h_r h4 nd 1 = 16 + h_n h2 := by rw [f4r, if_pos ⟨rfl, rfl⟩]
  have kC : h_k h4 (16 + h_n h) = (20, 2 * (h_k h (h_r h nd 0)).2) := by rw [f4k, (s3 _ (by omega)).1, f2k]; exact k1
  have kE : h_k h4 (16 + h_n h2) = (25, 2 * (h_k h (h_r h nd 1)).2) := by rw [f4k]; exact k3
  have ok4 : nl_ok h4 nd := by
    unfold nl_ok
    rw [r40, r41, kC, kE, K nd o3, I nd 5 o3]
    exact ⟨⟨o1, o2, by omega⟩, ⟨rfl, by omega, by omega⟩, ⟨rfl, by omega, by omega⟩, by show 7 * (2 * _) = 2 * _; omega, ⟨m0, by show _ ≤ ((2 * _ : Nat) : Int); omega⟩, by show 64 ≤ 2 * _; omega, by show 2 * _ ≤ 32000; omega⟩
  refine k_make48 ok4 (by rw [r41, kE, I nd 5 o3]; show _ < ((2 * _ : Nat) : Int); omega) (by rw [I nd 5 o3]; exact c2) rfl rfl qw rfl qr (fun x h' qx T => g x h' (by rw [qx, I nd 5 o3]) ?_)
  obtain ⟨t1_, t2_, t3_, t4_, t5_, t6_, t7_, t8_, t9_⟩ := T
  rw [I nd 5 o3] at t3_ t5_ t6_ t7_ t8_ t9_
  obtain ⟨y1, ⟨y2, yx⟩, y3⟩ := t2_
  refine ⟨t1_, ⟨by omega, ⟨fun k hk => Or.inr ?_, by omega, fun j hj => ?_, fun j h1 h2 => by rw [show j = (z_i h nd 5).toNat by omega]; exact t9_⟩, fun a ha => ?_⟩, t3_, fun k hk => by rw [t4_ k hk, I nd k o3], fun j hj => ?_, t6_, t7_, fun j hj => ?_, t9_⟩
  · rcases y2 k hk with e | e
    · rw [e]
      rcases (show k = 0 ∨ k = 1 by omega) with z | z
      · rw [z, r40]
        omega
      · rw [z, r41]
        omega
    · omega
  · rw [t8_ j hj, r41, f4l, t3 j (by omega), f2l, (s1 _ dl).2.2.2]
  · obtain ⟨u1, u2, u3⟩ := y3 a (by omega)
    refine ⟨u1.trans (K a ha), fun k hk => (u2 k hk).trans (R a k ha hk), fun hn => ?_⟩
    obtain ⟨v1, v2⟩ := u3 (fun z => by
      rcases z with z | z | z | z
      · exact hn (Or.inl z)
      · rw [r40] at z
        omega
      · rw [r41] at z
        omega
      · exact z)
    exact ⟨fun j => (v1 j).trans (I a j ha), fun j => (v2 j).trans (L a j ha)⟩
  · rw [t5_ j hj, r40, f4i, (s3 _ (by omega)).2.2.1, f2i, t1 j (by omega)]
  · rw [t8_ j hj, r41, f4l, t3 j (by omega), f2l, (s1 _ dl).2.2.2]
end
end
section
-- THE PURE STORE: its shape; a store that goes on
def ps_sh (S : PSt) : Prop := ∀ v : Nat, v < ps_n S → (0 ≤ ps_k S v ∧ ps_k S v ≤ 5) ∧ ∀ r : Nat, (r : Int) < ps_k S v → 0 ≤ ps_b S (6 * v + r) ∧ ps_b S (6 * v + r) < (ps_n S : Int) ∧ ps_k S (ps_b S (6 * v + r)).toNat = (r : Int)
def ps_ex (S S' : PSt) : Prop := ps_n S ≤ ps_n S' ∧ ∀ v : Nat, v < ps_n S → ps_k S' v = ps_k S v ∧ ps_t S' v = ps_t S v ∧ ps_y S' v = ps_y S v ∧ ∀ j, j < 6 → ps_b S' (6 * v + j) = ps_b S (6 * v + j)
theorem ps_ex0 {S : PSt} : ps_ex S S := ⟨Nat.le_refl _, fun _ _ => ⟨rfl, rfl, rfl, fun _ _ => rfl⟩⟩
theorem ps_exT {S S1 S2 : PSt} (a : ps_ex S S1) (b : ps_ex S1 S2) : ps_ex S S2 := ⟨Nat.le_trans a.1 b.1, fun v hv => by
  obtain ⟨a1, a2, a3, a4⟩ := a.2 v hv
  obtain ⟨b1, b2, b3, b4⟩ := b.2 v (Nat.lt_of_lt_of_le hv a.1)
  exact ⟨b1.trans a1, b2.trans a2, b3.trans a3, fun j hj => (b4 j hj).trans (a4 j hj)⟩⟩
theorem ps_exM {S : PSt} {t y k l : Int} {f : Nat → Int} : ps_ex S (ps_le (ps_mk S t y k f) l) := ⟨Nat.le_succ _, fun v hv => ⟨m_uN _ _ _ _ (by omega), m_uN _ _ _ _ (by omega), m_uN _ _ _ _ (by omega), fun j hj => ps_mkB (t := t) (y := y) (k := k) (f := f) (by omega)⟩⟩
theorem hp_inE {S S' : PSt} {f : Nat → Int} (e : ps_ex S S') (h : hp_in S f) : hp_in S' f := fun r hr => by
  rcases h r hr with z | ⟨z1, z2, z3⟩
  · exact Or.inl z
  · exact Or.inr ⟨z1, by have := e.1; omega, by rw [(e.2 _ (by omega)).1]; exact z3⟩
theorem ps_lkS {S : PSt} {u d r : Int} (sh : ps_sh S) (u0 : 0 ≤ u) (u1 : u < (ps_n S : Int)) (d0 : 0 ≤ d) (d1 : d < (ps_n S : Int)) (ku : ps_k S u.toNat = r) (kd : ps_k S d.toNat = r) (r4 : r ≤ 4) : ps_sh (ps_lk S u d) ∧ ps_k (ps_lk S u d) (ps_n S) = r + 1 := by
  have r0 : 0 ≤ r := by
    have := (sh u.toNat (by omega)).1.1
    omega
  obtain ⟨n1, n2, n3, n4, n5⟩ := ps_lkN (S := S) (u := u) (d := d)
  have kn : ps_k (ps_lk S u d) (ps_n S) = r + 1 := by rw [n4, m_uE, ku]
  have ko : ∀ v : Nat, v < ps_n S → ps_k (ps_lk S u d) v = ps_k S v := fun v hv => by rw [n4, m_uN _ _ _ _ (by omega)]
  refine ⟨fun v hv => ?_, kn⟩
  rw [n1] at hv ⊢
  by_cases e : v = ps_n S
  · subst e
    refine ⟨by rw [kn]; omega, fun q hq => ?_⟩
    rw [kn] at hq
    rw [ps_lkC (by omega)]
    by_cases c : (q : Int) < ps_k S u.toNat
    · rw [if_pos c]
      obtain ⟨b0, b1, b2⟩ := (sh u.toNat (by omega)).2 q c
      exact ⟨b0, by omega, by rw [ko _ (by omega)]; exact b2⟩
    · rw [if_neg c]
      exact ⟨d0, by omega, by rw [ko _ (by omega), kd]; omega⟩
  · obtain ⟨a1, a2⟩ := sh v (by omega)
    refine ⟨by rw [ko v (by omega)]; exact a1, fun q hq => ?_⟩
    rw [ko v (by omega)] at hq
    obtain ⟨b0, b1, b2⟩ := a2 q hq
    rw [ps_lkB (by omega)]
    exact ⟨b0, by omega, by rw [ko _ (by omega)]; exact b2⟩
theorem ps_linkS {S : PSt} {a b r : Int} (sh : ps_sh S) (a0 : 0 ≤ a) (a1 : a < (ps_n S : Int)) (b0 : 0 ≤ b) (b1 : b < (ps_n S : Int)) (ka : ps_k S a.toNat = r) (kb : ps_k S b.toNat = r) (r4 : r ≤ 4) : ps_sh (ps_link S a b) ∧ ps_k (ps_link S a b) (ps_n S) = r + 1 := by
  unfold ps_link
  by_cases c : ps_ls S b a
  · rw [(ps_udT c).1, (ps_udT c).2]
    exact ps_lkS sh b0 b1 a0 a1 kb ka r4
  · rw [(ps_udF c).1, (ps_udF c).2]
    exact ps_lkS sh a0 a1 b0 b1 ka kb r4
theorem ps_linkE {S : PSt} {a b : Int} : ps_ex S (ps_link S a b) ∧ ps_n (ps_link S a b) = ps_n S + 1 := ⟨ps_exM, rfl⟩
-- the meld, rank by rank
def pm_I (S : PSt) (f s : Nat → Int) (r : Nat) (X : PXt) : Prop := (ps_sh X.1 ∧ hp_in X.1 X.2.1 ∧ (X.2.2 = -1 ∨ (0 ≤ X.2.2 ∧ X.2.2 < (ps_n X.1 : Int) ∧ ps_k X.1 X.2.2.toNat = (r : Int)))) ∧ (ps_ex S X.1 ∧ ps_n X.1 ≤ ps_n S + r) ∧ (∀ q, r ≤ q → X.2.1 q = f q) ∧ p_ws X.2.1 r + y_tg X.2.2 * 2 ^ r = p_ws f r + p_ws s r
theorem pm_wt {h f s : Nat → Int} {c y c' : Int} {r : Nat} (w : p_ws h r + y_tg c * 2 ^ r = p_ws f r + p_ws s r) (wt : y_tg y + 2 * y_tg c' = y_tg c + y_tg (f r) + y_tg (s r)) : p_ws (m_u h r y) (r + 1) + y_tg c' * 2 ^ (r + 1) = p_ws f (r + 1) + p_ws s (r + 1) := by
  rw [p_ws, p_ws, p_ws, m_uE, p_wsC (f := h) (fun j hj => m_uN _ _ _ _ (by omega)), Nat.pow_succ]
  have w2 := congrArg (· * 2 ^ r) wt
  simp only [Nat.add_mul] at w2
  have e1 : 2 * y_tg c' * 2 ^ r = y_tg c' * (2 ^ r * 2) := by
    rw [Nat.mul_comm 2 (y_tg c'), Nat.mul_assoc, Nat.mul_comm 2]
  omega
theorem pm_r4 {S : PSt} {f s : Nat → Int} {r : Nat} {X : PXt} (I : pm_I S f s r X) (r6 : r < 6) (w : p_ws f 6 + p_ws s 6 ≤ 63) (two : 2 ≤ y_tg X.2.2 + y_tg (f r) + y_tg (s r)) : r ≤ 4 := by
  by_cases e : r = 5
  · subst e
    exfalso
    have w5 := I.2.2.2
    have a : p_ws f 6 = p_ws f 5 + y_tg (f 5) * 2 ^ 5 := rfl
    have b : p_ws s 6 = p_ws s 5 + y_tg (s 5) * 2 ^ 5 := rfl
    have e : (2 : Nat) ^ 5 = 32 := by decide
    rw [e] at w5 a b
    omega
  · omega
theorem pm_hp {S : PSt} {h : Nat → Int} {r : Nat} {y : Int} (hh : hp_in S h) (py : y = -1 ∨ (0 ≤ y ∧ y < (ps_n S : Int) ∧ ps_k S y.toNat = (r : Int))) : hp_in S (m_u h r y) := fun q hq => by
  by_cases e : q = r
  · rw [e, m_uE]
    exact py
  · rw [m_uN _ _ _ _ e]
    exact hh q hq
theorem pm_Ilk {S : PSt} {f s : Nat → Int} {r : Nat} {X : PXt} {a b y : Int} (I : pm_I S f s r X) (na : 0 ≤ a ∧ a < (ps_n X.1 : Int) ∧ ps_k X.1 a.toNat = (r : Int)) (nb : 0 ≤ b ∧ b < (ps_n X.1 : Int) ∧ ps_k X.1 b.toNat = (r : Int)) (py : y = -1 ∨ (0 ≤ y ∧ y < (ps_n X.1 : Int) ∧ ps_k X.1 y.toNat = (r : Int))) (wt : y_tg y + 2 = y_tg X.2.2 + y_tg (f r) + y_tg (s r)) (r4 : r ≤ 4) : pm_I S f s (r + 1) (ps_link X.1 a b, m_u X.2.1 r y, (ps_n X.1 : Int)) := by
  obtain ⟨⟨i1, i2, i3⟩, ⟨i4, i5⟩, i6, i7⟩ := I
  obtain ⟨l1, l2⟩ := ps_linkS i1 na.1 na.2.1 nb.1 nb.2.1 na.2.2 nb.2.2 (by omega)
  obtain ⟨x1, x2⟩ := ps_linkE (S := X.1) (a := a) (b := b)
  refine ⟨⟨l1, hp_inE x1 (pm_hp i2 py), Or.inr ⟨Int.natCast_nonneg _, by show (ps_n X.1 : Int) < (ps_n (ps_link X.1 a b) : Int); omega, ?_⟩⟩, ⟨ps_exT i4 x1, by show ps_n (ps_link X.1 a b) ≤ _; omega⟩, fun q hq => ?_, ?_⟩
  · rw [Int.toNat_natCast, l2]
    omega
  · show m_u X.2.1 r y q = _
    rw [m_uN _ _ _ _ (by omega)]
    exact i6 q (by omega)
  · exact pm_wt (c' := (ps_n X.1 : Int)) i7 (by rw [y_tg1 (x := (ps_n X.1 : Int)) (by omega)]; omega)
theorem pm_Ino {S : PSt} {f s : Nat → Int} {r : Nat} {X : PXt} {y : Int} (I : pm_I S f s r X) (py : y = -1 ∨ (0 ≤ y ∧ y < (ps_n X.1 : Int) ∧ ps_k X.1 y.toNat = (r : Int))) (wt : y_tg y = y_tg X.2.2 + y_tg (f r) + y_tg (s r)) : pm_I S f s (r + 1) (X.1, m_u X.2.1 r y, -1) := by
  obtain ⟨⟨i1, i2, i3⟩, ⟨i4, i5⟩, i6, i7⟩ := I
  refine ⟨⟨i1, pm_hp i2 py, Or.inl rfl⟩, ⟨i4, by show ps_n X.1 ≤ _; omega⟩, fun q hq => ?_, ?_⟩
  · show m_u X.2.1 r y q = _
    rw [m_uN _ _ _ _ (by omega)]
    exact i6 q (by omega)
  · exact pm_wt (c' := -1) i7 (by have : y_tg (-1) = 0 := rfl; omega)
theorem pm_I0 {S : PSt} {f s : Nat → Int} (sh : ps_sh S) (hf : hp_in S f) : pm_I S f s 0 (S, f, -1) := ⟨⟨sh, hf, Or.inl rfl⟩, ⟨ps_ex0, Nat.le_refl _⟩, fun _ _ => rfl, rfl⟩
theorem pm_Is {S : PSt} {f s : Nat → Int} {r : Nat} {X : PXt} (I : pm_I S f s r X) (hs : hp_in S s) (r6 : r < 6) : s r = -1 ∨ (0 ≤ s r ∧ s r < (ps_n X.1 : Int) ∧ ps_k X.1 (s r).toNat = (r : Int)) := hp_inE I.2.1.1 hs r r6
theorem pm_If {S : PSt} {f s : Nat → Int} {r : Nat} {X : PXt} (I : pm_I S f s r X) (r6 : r < 6) : f r = -1 ∨ (0 ≤ f r ∧ f r < (ps_n X.1 : Int) ∧ ps_k X.1 (f r).toNat = (r : Int)) := by
  rw [← I.2.2.1 r (Nat.le_refl _)]
  exact I.1.2.1 r r6
theorem pm_step {S : PSt} {f s : Nat → Int} {r : Nat} {X : PXt} (I : pm_I S f s r X) (hs : hp_in S s) (r6 : r < 6) (w : p_ws f 6 + p_ws s 6 ≤ 63) : pm_I S f s (r + 1) (pm_st s X r) := by
  have t0 : y_tg (-1) = 0 := rfl
  have ef := I.2.2.1 r (Nat.le_refl _)
  have pf := pm_If I r6
  have pq := pm_Is I hs r6
  have pc := I.1.2.2
  by_cases cf : f r = -1 <;> by_cases cs : s r = -1 <;> by_cases cc : X.2.2 = -1
  · have a := y_tg0 cf; have b := y_tg0 cs; have c := y_tg0 cc
    rw [pm_st3 (a := f r) (b := s r) (c := X.2.2) (o := s r) (y := s r) ef rfl rfl (fun z => z.1 cf) (pm_oneT cf) (fun z => z.1 cc) (pm_oneT cc)]
    exact pm_Ino I pq (by omega)
  · have a := y_tg0 cf; have b := y_tg0 cs; have c := y_tg1 cc
    rw [pm_st3 (a := f r) (b := s r) (c := X.2.2) (o := s r) (y := X.2.2) ef rfl rfl (fun z => z.1 cf) (pm_oneT cf) (fun z => z.2 cs) (pm_oneF cc)]
    exact pm_Ino I pc (by omega)
  · have a := y_tg0 cf; have b := y_tg1 cs; have c := y_tg0 cc
    rw [pm_st3 (a := f r) (b := s r) (c := X.2.2) (o := s r) (y := s r) ef rfl rfl (fun z => z.1 cf) (pm_oneT cf) (fun z => z.1 cc) (pm_oneT cc)]
    exact pm_Ino I pq (by omega)
  · have a := y_tg0 cf; have b := y_tg1 cs; have c := y_tg1 cc
    rw [pm_st2 (a := f r) (b := s r) (c := X.2.2) (o := s r) ef rfl rfl (fun z => z.1 cf) cc (pm_oneT cf) cs]
    exact pm_Ilk I (pc.resolve_left cc) (pq.resolve_left cs) (Or.inl rfl) (by omega) (pm_r4 I r6 w (by omega))
  · have a := y_tg1 cf; have b := y_tg0 cs; have c := y_tg0 cc
    rw [pm_st3 (a := f r) (b := s r) (c := X.2.2) (o := f r) (y := f r) ef rfl rfl (fun z => z.2 cs) (pm_oneF cf) (fun z => z.1 cc) (pm_oneT cc)]
    exact pm_Ino I pf (by omega)
  · have a := y_tg1 cf; have b := y_tg0 cs; have c := y_tg1 cc
    rw [pm_st2 (a := f r) (b := s r) (c := X.2.2) (o := f r) ef rfl rfl (fun z => z.2 cs) cc (pm_oneF cf) cf]
    exact pm_Ilk I (pc.resolve_left cc) (pf.resolve_left cf) (Or.inl rfl) (by omega) (pm_r4 I r6 w (by omega))
  · have a := y_tg1 cf; have b := y_tg1 cs; have c := y_tg0 cc
    rw [pm_st1 (a := f r) (b := s r) (y := X.2.2) ef rfl rfl cf cs]
    exact pm_Ilk I (pf.resolve_left cf) (pq.resolve_left cs) pc (by omega) (pm_r4 I r6 w (by omega))
  · have a := y_tg1 cf; have b := y_tg1 cs; have c := y_tg1 cc
    rw [pm_st1 (a := f r) (b := s r) (y := X.2.2) ef rfl rfl cf cs]
    exact pm_Ilk I (pf.resolve_left cf) (pq.resolve_left cs) pc (by omega) (pm_r4 I r6 w (by omega))
theorem pm_runI {S : PSt} {f s : Nat → Int} (sh : ps_sh S) (hf : hp_in S f) (hs : hp_in S s) (w : p_ws f 6 + p_ws s 6 ≤ 63) : ∀ r, r ≤ 6 → pm_I S f s r (pm_run s (S, f, -1) r)
  | 0, _ => pm_I0 sh hf
  | r + 1, h => pm_step (pm_runI sh hf hs w r (by omega)) hs (by omega) w
-- what a meld leaves
theorem pm_mdI {S : PSt} {f s : Nat → Int} (sh : ps_sh S) (hf : hp_in S f) (hs : hp_in S s) (w : p_ws f 6 + p_ws s 6 ≤ 63) : ps_sh (pm_md S f s).1 ∧ hp_in (pm_md S f s).1 (pm_md S f s).2 ∧ ps_ex S (pm_md S f s).1 ∧ ps_n (pm_md S f s).1 ≤ ps_n S + 6 ∧ p_ws (pm_md S f s).2 6 = p_ws f 6 + p_ws s 6 := by
  obtain ⟨⟨i1, i2, i3⟩, ⟨i4, i5⟩, i6, i7⟩ := pm_runI sh hf hs w 6 (Nat.le_refl _)
  refine ⟨i1, i2, i4, i5, ?_⟩
  have e : y_tg (pm_run s (S, f, -1) 6).2.2 = 0 := by
    by_cases c : y_tg (pm_run s (S, f, -1) 6).2.2 = 0
    · exact c
    · exfalso
      have : (2 : Nat) ^ 6 = 64 := by decide
      rw [this] at i7
      omega
  rw [e] at i7
  show p_ws (pm_run s (S, f, -1) 6).2.1 6 = _
  omega
-- THE CLASS'S NODES: one more
theorem cs_mk {h0 h1 : MH} {H H1 : Nat → Nat → Int} {nd : Nat} {S : PSt} {t y k l : Int} {f : Nat → Int} (I : cs_of h0 H nd S) (n1 : ps_n S ≤ 15999) (h5 : H1 nd 5 = (ps_n S : Int) + 1) (h6 : H1 nd 6 = l) (l0 : 0 ≤ l) (l1 : l ≤ (ps_n S : Int) + 1) (old : ∀ j : Nat, j < 7 * ps_n S → H1 (h_r h1 nd 0) j = H (h_r h0 nd 0) j) (t0 : 0 ≤ t) (t1 : t ≤ 127) (y0 : 0 ≤ y) (y1 : y ≤ 99) (k0 : 0 ≤ k) (k5 : k ≤ 5) (w : H1 (h_r h1 nd 0) (7 * ps_n S) = 128 * y + t) (rk : H1 (h_r h1 nd 0) (7 * ps_n S + 1) = k) (ch : ∀ r : Nat, (r : Int) < k → H1 (h_r h1 nd 0) (7 * ps_n S + 2 + (k.toNat - 1 - r)) = f r) : cs_of h1 H1 nd (ps_le (ps_mk S t y k f) l) := by
  obtain ⟨i1, i2, i3, i4, i5⟩ := I
  obtain ⟨n1_, n2, n3, n4, n5⟩ := ps_mkN (S := S) (t := t) (y := y) (k := k) (f := f)
  refine ⟨?_, h6, ⟨l0, ?_⟩, ?_, fun v hv => ?_⟩
  · show H1 nd 5 = ((ps_n S + 1 : Nat) : Int)
    omega
  · show l ≤ ((ps_n S + 1 : Nat) : Int)
    omega
  · show ps_n S + 1 ≤ 16000
    omega
  · have hv : v < ps_n S + 1 := hv
    show H1 (h_r h1 nd 0) (7 * v) = 128 * (m_u (ps_y S) (ps_n S) y v) + (m_u (ps_t S) (ps_n S) t v) ∧ (0 ≤ m_u (ps_t S) (ps_n S) t v ∧ m_u (ps_t S) (ps_n S) t v ≤ 127) ∧ (0 ≤ m_u (ps_y S) (ps_n S) y v ∧ m_u (ps_y S) (ps_n S) y v ≤ 99) ∧ H1 (h_r h1 nd 0) (7 * v + 1) = m_u (ps_k S) (ps_n S) k v ∧ (0 ≤ m_u (ps_k S) (ps_n S) k v ∧ m_u (ps_k S) (ps_n S) k v ≤ 5) ∧ ∀ r : Nat, (r : Int) < m_u (ps_k S) (ps_n S) k v → H1 (h_r h1 nd 0) (7 * v + 2 + ((m_u (ps_k S) (ps_n S) k v).toNat - 1 - r)) = ps_b (ps_mk S t y k f) (6 * v + r)
    by_cases e : v = ps_n S
    · subst e
      rw [m_uE, m_uE, m_uE]
      exact ⟨w, ⟨t0, t1⟩, ⟨y0, y1⟩, rk, ⟨k0, k5⟩, fun r hr => by rw [ps_mkC (by omega)]; exact ch r hr⟩
    · rw [m_uN _ _ _ _ e, m_uN _ _ _ _ e, m_uN _ _ _ _ e]
      obtain ⟨a1, a2, a3, a4, a5, a6⟩ := i5 v (by omega)
      exact ⟨by rw [old _ (by omega)]; exact a1, a2, a3, by rw [old _ (by omega)]; exact a4, a5, fun r hr => by rw [ps_mkB (by omega), old _ (by omega)]; exact a6 r hr⟩
-- the same store, seen where it stands
theorem cs_mv {h0 h1 : MH} {H H1 : Nat → Nat → Int} {nd : Nat} {S : PSt} (I : cs_of h0 H nd S) (h5 : H1 nd 5 = H nd 5) (h6 : H1 nd 6 = H nd 6) (old : ∀ j : Nat, j < 7 * ps_n S → H1 (h_r h1 nd 0) j = H (h_r h0 nd 0) j) : cs_of h1 H1 nd S := by
  obtain ⟨i1, i2, i3, i4, i5⟩ := I
  refine ⟨h5.trans i1, h6.trans i2, i3, i4, fun v hv => ?_⟩
  obtain ⟨a1, a2, a3, a4, a5, a6⟩ := i5 v hv
  exact ⟨by rw [old _ (by omega)]; exact a1, a2, a3, by rw [old _ (by omega)]; exact a4, a5, fun r hr => by rw [old _ (by omega)]; exact a6 r hr⟩
-- the links alone set anew
theorem cs_le {h0 h1 : MH} {H H1 : Nat → Nat → Int} {nd : Nat} {S : PSt} {l : Int} (I : cs_of h0 H nd S) (h5 : H1 nd 5 = H nd 5) (h6 : H1 nd 6 = l) (l0 : 0 ≤ l) (l1 : l ≤ (ps_n S : Int)) (old : ∀ j : Nat, j < 7 * ps_n S → H1 (h_r h1 nd 0) j = H (h_r h0 nd 0) j) : cs_of h1 H1 nd (ps_le S l) := by
  obtain ⟨i1, i2, i3, i4, i5⟩ := I
  refine ⟨h5.trans i1, h6, ⟨l0, l1⟩, i4, fun v hv => ?_⟩
  have hv : v < ps_n S := hv
  obtain ⟨a1, a2, a3, a4, a5, a6⟩ := i5 v hv
  exact ⟨by rw [old _ (by omega)]; exact a1, a2, a3, by rw [old _ (by omega)]; exact a4, a5, fun r hr => by
    have hr : (r : Int) < ps_k S v := hr
    show H1 (h_r h1 nd 0) (7 * v + 2 + ((ps_k S v).toNat - 1 - r)) = ps_b S (6 * v + r)
    rw [old _ (by omega)]
    exact a6 r hr⟩
theorem nl_nd {h : MH} {nd : Nat} {n : Nat} (ok : nl_ok h nd) (e : z_i h nd 5 = (n : Int)) : nd_ok h nd n := ⟨⟨ok.1.1, ok.1.2.1⟩, ⟨ok.2.1.1, ok.2.1.2.1⟩, by
  obtain ⟨-, -, -, l1, ⟨m0, m1⟩, -⟩ := ok
  omega⟩
section
variable {lv : List (Nat × Value)} {Q : Option Value → MH → Prop} {h0 h : MH} {H : Nat → Nat → Int}
theorem r_li0 {nd : Nat} {a b : Int} (M : RX h0 h H) (e0 : m_lk lv 0 = some (.ref nd)) {lx1 : Int32} (e1 : m_lk lv 1 = some (.int lx1)) (lq1 : lx1.toInt = a) {lx2 : Int32} (e2 : m_lk lv 2 = some (.int lx2)) (lq2 : lx2.toInt = b)  (hs0 : 16 ≤ nd) (hk0 : (h_k h0 nd).1 = 3)
    (g0 : HJ 66 0 (lv_args 0 [.ref nd, .int lx2]) [] h (fun v h' => HJ 65 5 lv (v.toList ++ []) h' Q))
    : HJ 65 0 lv [] h Q := by
  refine hI_al (k := 0) rfl e0 rfl ?_ -- 0
  refine hI_il (k := 2) rfl e2 rfl ?_ -- 1
  refine HJ.call (j := 66) (as := [.ref nd, .int lx2]) (rr := []) (pc' := 5) (m_cR (kc := 2) rfl rfl (by decide +kernel) rfl rfl rfl ⟨rfl, by decide +kernel, by decide +kernel⟩ (by decide) hs0 (by rw [M.2.1]; exact hk0)) (by show 2 ≤ m_lc 66; decide +kernel) ?_ -- 2
  exact g0 
theorem r_li5 {nd : Nat} {a b w : Int} (M : RX h0 h H) (e0 : m_lk lv 0 = some (.ref nd)) {lx1 : Int32} (e1 : m_lk lv 1 = some (.int lx1)) (lq1 : lx1.toInt = a) {lx2 : Int32} (e2 : m_lk lv 2 = some (.int lx2)) (lq2 : lx2.toInt = b) {sx0 : Int32} (sq0 : sx0.toInt = w)  (hs0 : 16 ≤ nd) (hk0 : (h_k h0 nd).1 = 3)
    (g0 : HJ 66 0 (lv_args 0 [.ref nd, .int lx1]) [] h (fun v h' => HJ 65 10 lv (v.toList ++ [.int sx0]) h' Q))
    : HJ 65 5 lv [.int sx0] h Q := by
  refine hI_al (k := 0) rfl e0 rfl ?_ -- 5
  refine hI_il (k := 1) rfl e1 rfl ?_ -- 6
  refine HJ.call (j := 66) (as := [.ref nd, .int lx1]) (rr := [.int sx0]) (pc' := 10) (m_cR (kc := 2) rfl rfl (by decide +kernel) rfl rfl rfl ⟨rfl, by decide +kernel, by decide +kernel⟩ (by decide) hs0 (by rw [M.2.1]; exact hk0)) (by show 2 ≤ m_lc 66; decide +kernel) ?_ -- 7
  exact g0 
theorem r_li10 {nd : Nat} {a b w v : Int} (M : RX h0 h H) (e0 : m_lk lv 0 = some (.ref nd)) {lx1 : Int32} (e1 : m_lk lv 1 = some (.int lx1)) (lq1 : lx1.toInt = a) {lx2 : Int32} (e2 : m_lk lv 2 = some (.int lx2)) (lq2 : lx2.toInt = b) {sx0 : Int32} (sq0 : sx0.toInt = w) {sx1 : Int32} (sq1 : sx1.toInt = v)  (hs0 : 16 ≤ nd) (hk0 : (h_k h0 nd).1 = 3)
    (g0 : ∀ x1 : Int32, x1.toInt = 0 → ∀ lv3 : List (Nat × Value), m_lk lv3 0 = some (.ref nd) → m_lk lv3 1 = some (.int lx1) → m_lk lv3 2 = some (.int lx2) → m_lk lv3 3 = some (.int x1) → m_lk lv3 4 = some (.int lx1) → w ≥ v → HJ 67 0 (lv_args 0 [.ref nd, .int lx1]) [] h (fun v h' => HJ 65 36 lv3 (v.toList ++ []) h' Q))
    (g1 : ∀ x4 : Int32, x4.toInt = 1 → ∀ lv6 : List (Nat × Value), m_lk lv6 0 = some (.ref nd) → m_lk lv6 1 = some (.int lx1) → m_lk lv6 2 = some (.int lx2) → m_lk lv6 3 = some (.int x4) → m_lk lv6 4 = some (.int lx2) → w < v → HJ 67 0 (lv_args 0 [.ref nd, .int lx2]) [] h (fun v h' => HJ 65 36 lv6 (v.toList ++ []) h' Q))
    : HJ 65 10 lv [.int sx1, .int sx0] h Q := by
  refine hM_cge (off := 7) (t := 17) rfl sq0 sq1 (by decide) rfl (fun c10 => ?_) (fun c10 => ?_) -- 10
  · refine hM_ic (n := 0) rfl (by decide) rfl (fun x1 q1 => ?_) -- 17
    refine hM_si (k := 3) rfl (by decide +kernel) rfl (fun lv2 e2_3 u2 => ?_) -- 18
    have e2_0 := u2 0 _ (by decide) (Or.inl rfl) e0
    have e2_1 := u2 1 _ (by decide) (Or.inl rfl) e1
    have e2_2 := u2 2 _ (by decide) (Or.inl rfl) e2
    refine hI_il (k := 3) rfl e2_3 rfl ?_ -- 19
    refine hM_zeq (off := 7) (t := 27) rfl q1 (by decide) rfl (fun c20 => ?_) (fun c20 => ?_) -- 20
    · refine hI_il (k := 1) rfl e2_1 rfl ?_ -- 27
      refine hM_si2 (k := 4) rfl (by decide +kernel) rfl (fun lv3 e3_4 u3 => ?_) -- 28
      have e3_0 := u3 0 _ (by decide) (Or.inl rfl) e2_0
      have e3_1 := u3 1 _ (by decide) (Or.inl rfl) e2_1
      have e3_2 := u3 2 _ (by decide) (Or.inl rfl) e2_2
      have e3_3 := u3 3 _ (by decide) (Or.inl rfl) e2_3
      refine hI_al (k := 0) rfl e3_0 rfl ?_ -- 30
      refine hI_il2 (k := 4) rfl e3_4 rfl ?_ -- 31
      refine HJ.call (j := 67) (as := [.ref nd, .int lx1]) (rr := []) (pc' := 36) (m_cR (kc := 2) rfl rfl (by decide +kernel) rfl rfl rfl ⟨rfl, by decide +kernel, by decide +kernel⟩ (by decide) hs0 (by rw [M.2.1]; exact hk0)) (by show 2 ≤ m_lc 67; decide +kernel) ?_ -- 33
      exact g0 x1 q1 lv3 e3_0 e3_1 e3_2 e3_3 e3_4 c10
    · exfalso; omega
  · refine hM_ic (n := 1) rfl (by decide) rfl (fun x4 q4 => ?_) -- 13
    refine hI_go (pc' := 18) (off := 4) rfl (by decide) ?_ -- 14
    refine hM_si (k := 3) rfl (by decide +kernel) rfl (fun lv5 e5_3 u5 => ?_) -- 18
    have e5_0 := u5 0 _ (by decide) (Or.inl rfl) e0
    have e5_1 := u5 1 _ (by decide) (Or.inl rfl) e1
    have e5_2 := u5 2 _ (by decide) (Or.inl rfl) e2
    refine hI_il (k := 3) rfl e5_3 rfl ?_ -- 19
    refine hM_zeq (off := 7) (t := 27) rfl q4 (by decide) rfl (fun c20 => ?_) (fun c20 => ?_) -- 20
    · exfalso; omega
    · refine hI_il (k := 2) rfl e5_2 rfl ?_ -- 23
      refine hI_go (pc' := 28) (off := 4) rfl (by decide) ?_ -- 24
      refine hM_si2 (k := 4) rfl (by decide +kernel) rfl (fun lv6 e6_4 u6 => ?_) -- 28
      have e6_0 := u6 0 _ (by decide) (Or.inl rfl) e5_0
      have e6_1 := u6 1 _ (by decide) (Or.inl rfl) e5_1
      have e6_2 := u6 2 _ (by decide) (Or.inl rfl) e5_2
      have e6_3 := u6 3 _ (by decide) (Or.inl rfl) e5_3
      refine hI_al (k := 0) rfl e6_0 rfl ?_ -- 30
      refine hI_il2 (k := 4) rfl e6_4 rfl ?_ -- 31
      refine HJ.call (j := 67) (as := [.ref nd, .int lx2]) (rr := []) (pc' := 36) (m_cR (kc := 2) rfl rfl (by decide +kernel) rfl rfl rfl ⟨rfl, by decide +kernel, by decide +kernel⟩ (by decide) hs0 (by rw [M.2.1]; exact hk0)) (by show 2 ≤ m_lc 67; decide +kernel) ?_ -- 33
      exact g1 x4 q4 lv6 e6_0 e6_1 e6_2 e6_3 e6_4 c10
theorem r_li36 {nd : Nat} {a b t u k : Int} (M : RX h0 h H) (e0 : m_lk lv 0 = some (.ref nd)) {lx1 : Int32} (e1 : m_lk lv 1 = some (.int lx1)) (lq1 : lx1.toInt = a) {lx2 : Int32} (e2 : m_lk lv 2 = some (.int lx2)) (lq2 : lx2.toInt = b) {lx3 : Int32} (e3 : m_lk lv 3 = some (.int lx3)) (lq3 : lx3.toInt = t) {lx4 : Int32} (e4 : m_lk lv 4 = some (.int lx4)) (lq4 : lx4.toInt = u) {sx0 : Int32} (sq0 : sx0.toInt = k)  (hs0 : 16 ≤ nd) (hk0 : (h_k h0 nd).1 = 3)
    (g0 : ∀ lv1 : List (Nat × Value), m_lk lv1 0 = some (.ref nd) → m_lk lv1 1 = some (.int lx1) → m_lk lv1 2 = some (.int lx2) → m_lk lv1 3 = some (.int lx3) → m_lk lv1 4 = some (.int lx4) → m_lk lv1 5 = some (.int sx0) → HJ 66 0 (lv_args 0 [.ref nd, .int lx4]) [] h (fun v h' => HJ 65 45 lv1 (v.toList ++ [.ref nd]) h' Q))
    : HJ 65 36 lv [.int sx0] h Q := by
  refine hM_si2 (k := 5) rfl (by decide +kernel) rfl (fun lv1 e1_5 u1 => ?_) -- 36
  have e1_0 := u1 0 _ (by decide) (Or.inl rfl) e0
  have e1_1 := u1 1 _ (by decide) (Or.inl rfl) e1
  have e1_2 := u1 2 _ (by decide) (Or.inl rfl) e2
  have e1_3 := u1 3 _ (by decide) (Or.inl rfl) e3
  have e1_4 := u1 4 _ (by decide) (Or.inl rfl) e4
  refine hI_al (k := 0) rfl e1_0 rfl ?_ -- 38
  refine hI_al (k := 0) rfl e1_0 rfl ?_ -- 39
  refine hI_il2 (k := 4) rfl e1_4 rfl ?_ -- 40
  refine HJ.call (j := 66) (as := [.ref nd, .int lx4]) (rr := [.ref nd]) (pc' := 45) (m_cR (kc := 2) rfl rfl (by decide +kernel) rfl rfl rfl ⟨rfl, by decide +kernel, by decide +kernel⟩ (by decide) hs0 (by rw [M.2.1]; exact hk0)) (by show 2 ≤ m_lc 66; decide +kernel) ?_ -- 42
  exact g0 lv1 e1_0 e1_1 e1_2 e1_3 e1_4 e1_5
theorem r_li45 {nd : Nat} {a b t u k w : Int} (M : RX h0 h H) (e0 : m_lk lv 0 = some (.ref nd)) {lx1 : Int32} (e1 : m_lk lv 1 = some (.int lx1)) (lq1 : lx1.toInt = a) {lx2 : Int32} (e2 : m_lk lv 2 = some (.int lx2)) (lq2 : lx2.toInt = b) {lx3 : Int32} (e3 : m_lk lv 3 = some (.int lx3)) (lq3 : lx3.toInt = t) {lx4 : Int32} (e4 : m_lk lv 4 = some (.int lx4)) (lq4 : lx4.toInt = u) {lx5 : Int32} (e5 : m_lk lv 5 = some (.int lx5)) (lq5 : lx5.toInt = k) {sx1 : Int32} (sq1 : sx1.toInt = w) (k0 : 0 ≤ k) (k1 : k ≤ 5) (hs0 : 16 ≤ nd) (hk0 : (h_k h0 nd).1 = 3)
    (g0 : ∀ x2 : Int32, x2.toInt = k + 1 → HJ 61 0 (lv_args 0 [.ref nd, .int sx1, .int x2]) [] h (fun v h' => HJ 65 52 lv (v.toList ++ []) h' Q))
    : HJ 65 45 lv [.int sx1, .ref nd] h Q := by
  refine hI_il2 (k := 5) rfl e5 rfl ?_ -- 45
  refine hM_ic (n := 1) rfl (by decide) rfl (fun x1 q1 => ?_) -- 47
  refine hM_add rfl lq5 q1 (by omega) (by omega) rfl (fun x2 q2 => ?_) -- 48
  refine HJ.call (j := 61) (as := [.ref nd, .int sx1, .int x2]) (rr := []) (pc' := 52) (m_cR (kc := 2) rfl rfl (by decide +kernel) rfl rfl rfl ⟨rfl, by decide +kernel, by decide +kernel⟩ (by decide) hs0 (by rw [M.2.1]; exact hk0)) (by show 3 ≤ m_lc 61; decide +kernel) ?_ -- 49
  exact g0 x2 q2
theorem r_li52 {nd : Nat} {a b t u k n : Int} (M : RX h0 h H) (e0 : m_lk lv 0 = some (.ref nd)) {lx1 : Int32} (e1 : m_lk lv 1 = some (.int lx1)) (lq1 : lx1.toInt = a) {lx2 : Int32} (e2 : m_lk lv 2 = some (.int lx2)) (lq2 : lx2.toInt = b) {lx3 : Int32} (e3 : m_lk lv 3 = some (.int lx3)) (lq3 : lx3.toInt = t) {lx4 : Int32} (e4 : m_lk lv 4 = some (.int lx4)) (lq4 : lx4.toInt = u) {lx5 : Int32} (e5 : m_lk lv 5 = some (.int lx5)) (lq5 : lx5.toInt = k) {sx0 : Int32} (sq0 : sx0.toInt = n)  (hs0 : 16 ≤ nd) (hk0 : (h_k h0 nd).1 = 3)
    (g0 : ∀ x2 : Int32, x2.toInt = 0 → ∀ lv1 : List (Nat × Value), m_lk lv1 0 = some (.ref nd) → m_lk lv1 1 = some (.int lx1) → m_lk lv1 2 = some (.int lx2) → m_lk lv1 3 = some (.int lx3) → m_lk lv1 4 = some (.int lx4) → m_lk lv1 5 = some (.int lx5) → m_lk lv1 6 = some (.int sx0) → t = 0 → HJ 68 0 (lv_args 0 [.ref nd, .int sx0, .int x2, .int lx2]) [] h (fun v h' => HJ 65 70 lv1 (v.toList ++ []) h' Q))
    (g1 : ∀ x2 : Int32, x2.toInt = 0 → ∀ lv1 : List (Nat × Value), m_lk lv1 0 = some (.ref nd) → m_lk lv1 1 = some (.int lx1) → m_lk lv1 2 = some (.int lx2) → m_lk lv1 3 = some (.int lx3) → m_lk lv1 4 = some (.int lx4) → m_lk lv1 5 = some (.int lx5) → m_lk lv1 6 = some (.int sx0) → t ≠ 0 → HJ 68 0 (lv_args 0 [.ref nd, .int sx0, .int x2, .int lx1]) [] h (fun v h' => HJ 65 70 lv1 (v.toList ++ []) h' Q))
    : HJ 65 52 lv [.int sx0] h Q := by
  refine hM_si2 (k := 6) rfl (by decide +kernel) rfl (fun lv1 e1_6 u1 => ?_) -- 52
  have e1_0 := u1 0 _ (by decide) (Or.inl rfl) e0
  have e1_1 := u1 1 _ (by decide) (Or.inl rfl) e1
  have e1_2 := u1 2 _ (by decide) (Or.inl rfl) e2
  have e1_3 := u1 3 _ (by decide) (Or.inl rfl) e3
  have e1_4 := u1 4 _ (by decide) (Or.inl rfl) e4
  have e1_5 := u1 5 _ (by decide) (Or.inl rfl) e5
  refine hI_al (k := 0) rfl e1_0 rfl ?_ -- 54
  refine hI_il2 (k := 6) rfl e1_6 rfl ?_ -- 55
  refine hM_ic (n := 0) rfl (by decide) rfl (fun x2 q2 => ?_) -- 57
  refine hI_il (k := 3) rfl e1_3 rfl ?_ -- 58
  refine hM_zeq (off := 7) (t := 66) rfl lq3 (by decide) rfl (fun c59 => ?_) (fun c59 => ?_) -- 59
  · refine hI_il (k := 2) rfl e1_2 rfl ?_ -- 66
    refine HJ.call (j := 68) (as := [.ref nd, .int sx0, .int x2, .int lx2]) (rr := []) (pc' := 70) (m_cR (kc := 2) rfl rfl (by decide +kernel) rfl rfl rfl ⟨rfl, by decide +kernel, by decide +kernel⟩ (by decide) hs0 (by rw [M.2.1]; exact hk0)) (by show 4 ≤ m_lc 68; decide +kernel) ?_ -- 67
    exact g0 x2 q2 lv1 e1_0 e1_1 e1_2 e1_3 e1_4 e1_5 e1_6 c59
  · refine hI_il (k := 1) rfl e1_1 rfl ?_ -- 62
    refine hI_go (pc' := 67) (off := 4) rfl (by decide) ?_ -- 63
    refine HJ.call (j := 68) (as := [.ref nd, .int sx0, .int x2, .int lx1]) (rr := []) (pc' := 70) (m_cR (kc := 2) rfl rfl (by decide +kernel) rfl rfl rfl ⟨rfl, by decide +kernel, by decide +kernel⟩ (by decide) hs0 (by rw [M.2.1]; exact hk0)) (by show 4 ≤ m_lc 68; decide +kernel) ?_ -- 67
    exact g1 x2 q2 lv1 e1_0 e1_1 e1_2 e1_3 e1_4 e1_5 e1_6 c59
theorem r_li70 {nd : Nat} {a b t u k n : Int} (M : RX h0 h H) (e0 : m_lk lv 0 = some (.ref nd)) {lx1 : Int32} (e1 : m_lk lv 1 = some (.int lx1)) (lq1 : lx1.toInt = a) {lx2 : Int32} (e2 : m_lk lv 2 = some (.int lx2)) (lq2 : lx2.toInt = b) {lx3 : Int32} (e3 : m_lk lv 3 = some (.int lx3)) (lq3 : lx3.toInt = t) {lx4 : Int32} (e4 : m_lk lv 4 = some (.int lx4)) (lq4 : lx4.toInt = u) {lx5 : Int32} (e5 : m_lk lv 5 = some (.int lx5)) (lq5 : lx5.toInt = k) {lx6 : Int32} (e6 : m_lk lv 6 = some (.int lx6)) (lq6 : lx6.toInt = n) 
    (g0 : ∀ x1 : Int32, x1.toInt = 0 → ∀ lv2 : List (Nat × Value), m_lk lv2 0 = some (.ref nd) → m_lk lv2 1 = some (.int lx1) → m_lk lv2 2 = some (.int lx2) → m_lk lv2 3 = some (.int lx3) → m_lk lv2 4 = some (.int lx4) → m_lk lv2 5 = some (.int lx5) → m_lk lv2 6 = some (.int lx6) → m_lk lv2 7 = some (.int x1) → HJ 65 73 lv2 [] h Q)
    : HJ 65 70 lv [] h Q := by
  refine hM_ic (n := 0) rfl (by decide) rfl (fun x1 q1 => ?_) -- 70
  refine hM_si2 (k := 7) rfl (by decide +kernel) rfl (fun lv2 e2_7 u2 => ?_) -- 71
  have e2_0 := u2 0 _ (by decide) (Or.inl rfl) e0
  have e2_1 := u2 1 _ (by decide) (Or.inl rfl) e1
  have e2_2 := u2 2 _ (by decide) (Or.inl rfl) e2
  have e2_3 := u2 3 _ (by decide) (Or.inl rfl) e3
  have e2_4 := u2 4 _ (by decide) (Or.inl rfl) e4
  have e2_5 := u2 5 _ (by decide) (Or.inl rfl) e5
  have e2_6 := u2 6 _ (by decide) (Or.inl rfl) e6
  exact g0 x1 q1 lv2 e2_0 e2_1 e2_2 e2_3 e2_4 e2_5 e2_6 e2_7
theorem r_li73 {nd : Nat} {a b t u k n j : Int} (M : RX h0 h H) (e0 : m_lk lv 0 = some (.ref nd)) {lx1 : Int32} (e1 : m_lk lv 1 = some (.int lx1)) (lq1 : lx1.toInt = a) {lx2 : Int32} (e2 : m_lk lv 2 = some (.int lx2)) (lq2 : lx2.toInt = b) {lx3 : Int32} (e3 : m_lk lv 3 = some (.int lx3)) (lq3 : lx3.toInt = t) {lx4 : Int32} (e4 : m_lk lv 4 = some (.int lx4)) (lq4 : lx4.toInt = u) {lx5 : Int32} (e5 : m_lk lv 5 = some (.int lx5)) (lq5 : lx5.toInt = k) {lx6 : Int32} (e6 : m_lk lv 6 = some (.int lx6)) (lq6 : lx6.toInt = n) {lx7 : Int32} (e7 : m_lk lv 7 = some (.int lx7)) (lq7 : lx7.toInt = j) (j0 : 0 ≤ j) (k1 : k ≤ 5) (hs0 : 16 ≤ nd) (hk0 : (h_k h0 nd).1 = 3)
    (g0 : j ≥ k → HJ 65 104 lv [] h Q)
    (g1 : ∀ x2 : Int32, x2.toInt = j + 1 → j < k → HJ 69 0 (lv_args 0 [.ref nd, .int lx4, .int lx7]) [] h (fun v h' => HJ 65 95 lv (v.toList ++ [.int x2, .int lx6, .ref nd]) h' Q))
    : HJ 65 73 lv [] h Q := by
  refine hI_il2 (k := 7) rfl e7 rfl ?_ -- 73
  refine hI_il2 (k := 5) rfl e5 rfl ?_ -- 75
  refine hM_cge (off := 27) (t := 104) rfl lq7 lq5 (by decide) rfl (fun c77 => ?_) (fun c77 => ?_) -- 77
  · exact g0 c77
  · refine hI_al (k := 0) rfl e0 rfl ?_ -- 80
    refine hI_il2 (k := 6) rfl e6 rfl ?_ -- 81
    refine hI_il2 (k := 7) rfl e7 rfl ?_ -- 83
    refine hM_ic (n := 1) rfl (by decide) rfl (fun x1 q1 => ?_) -- 85
    refine hM_add rfl lq7 q1 (by omega) (by omega) rfl (fun x2 q2 => ?_) -- 86
    refine hI_al (k := 0) rfl e0 rfl ?_ -- 87
    refine hI_il2 (k := 4) rfl e4 rfl ?_ -- 88
    refine hI_il2 (k := 7) rfl e7 rfl ?_ -- 90
    refine HJ.call (j := 69) (as := [.ref nd, .int lx4, .int lx7]) (rr := [.int x2, .int lx6, .ref nd]) (pc' := 95) (m_cR (kc := 2) rfl rfl (by decide +kernel) rfl rfl rfl ⟨rfl, by decide +kernel, by decide +kernel⟩ (by decide) hs0 (by rw [M.2.1]; exact hk0)) (by show 3 ≤ m_lc 69; decide +kernel) ?_ -- 92
    exact g1 x2 q2 c77
theorem r_li95 {nd : Nat} {a b t u k n j n2 j2 c : Int} (M : RX h0 h H) (e0 : m_lk lv 0 = some (.ref nd)) {lx1 : Int32} (e1 : m_lk lv 1 = some (.int lx1)) (lq1 : lx1.toInt = a) {lx2 : Int32} (e2 : m_lk lv 2 = some (.int lx2)) (lq2 : lx2.toInt = b) {lx3 : Int32} (e3 : m_lk lv 3 = some (.int lx3)) (lq3 : lx3.toInt = t) {lx4 : Int32} (e4 : m_lk lv 4 = some (.int lx4)) (lq4 : lx4.toInt = u) {lx5 : Int32} (e5 : m_lk lv 5 = some (.int lx5)) (lq5 : lx5.toInt = k) {lx6 : Int32} (e6 : m_lk lv 6 = some (.int lx6)) (lq6 : lx6.toInt = n) {lx7 : Int32} (e7 : m_lk lv 7 = some (.int lx7)) (lq7 : lx7.toInt = j) {sx1 : Int32} (sq1 : sx1.toInt = n2) {sx2 : Int32} (sq2 : sx2.toInt = j2) {sx3 : Int32} (sq3 : sx3.toInt = c)  (hs0 : 16 ≤ nd) (hk0 : (h_k h0 nd).1 = 3)
    (g0 : HJ 68 0 (lv_args 0 [.ref nd, .int sx1, .int sx2, .int sx3]) [] h (fun v h' => HJ 65 98 lv (v.toList ++ []) h' Q))
    : HJ 65 95 lv [.int sx3, .int sx2, .int sx1, .ref nd] h Q := by
  refine HJ.call (j := 68) (as := [.ref nd, .int sx1, .int sx2, .int sx3]) (rr := []) (pc' := 98) (m_cR (kc := 2) rfl rfl (by decide +kernel) rfl rfl rfl ⟨rfl, by decide +kernel, by decide +kernel⟩ (by decide) hs0 (by rw [M.2.1]; exact hk0)) (by show 4 ≤ m_lc 68; decide +kernel) ?_ -- 95
  exact g0 
theorem r_li98 {nd : Nat} {a b t u k n j : Int} (M : RX h0 h H) (e0 : m_lk lv 0 = some (.ref nd)) {lx1 : Int32} (e1 : m_lk lv 1 = some (.int lx1)) (lq1 : lx1.toInt = a) {lx2 : Int32} (e2 : m_lk lv 2 = some (.int lx2)) (lq2 : lx2.toInt = b) {lx3 : Int32} (e3 : m_lk lv 3 = some (.int lx3)) (lq3 : lx3.toInt = t) {lx4 : Int32} (e4 : m_lk lv 4 = some (.int lx4)) (lq4 : lx4.toInt = u) {lx5 : Int32} (e5 : m_lk lv 5 = some (.int lx5)) (lq5 : lx5.toInt = k) {lx6 : Int32} (e6 : m_lk lv 6 = some (.int lx6)) (lq6 : lx6.toInt = n) {lx7 : Int32} (e7 : m_lk lv 7 = some (.int lx7)) (lq7 : lx7.toInt = j) (j0 : 0 ≤ j) (j1 : j ≤ 5)
    (g0 : ∀ x1 : Int32, x1.toInt = j + 1 → ∀ lv1 : List (Nat × Value), m_lk lv1 0 = some (.ref nd) → m_lk lv1 1 = some (.int lx1) → m_lk lv1 2 = some (.int lx2) → m_lk lv1 3 = some (.int lx3) → m_lk lv1 4 = some (.int lx4) → m_lk lv1 5 = some (.int lx5) → m_lk lv1 6 = some (.int lx6) → m_lk lv1 7 = some (.int x1) → HJ 65 73 lv1 [] h Q)
    : HJ 65 98 lv [] h Q := by
  refine hM_inc (k := 7) (z := 1) rfl e7 lq7 (by decide) (by omega) (by omega) (by decide +kernel) rfl (fun lv1 x1 q1 e1_7 u1 => ?_) -- 98
  have e1_0 := u1 0 _ (by decide) (Or.inl rfl) e0
  have e1_1 := u1 1 _ (by decide) (Or.inl rfl) e1
  have e1_2 := u1 2 _ (by decide) (Or.inl rfl) e2
  have e1_3 := u1 3 _ (by decide) (Or.inl rfl) e3
  have e1_4 := u1 4 _ (by decide) (Or.inl rfl) e4
  have e1_5 := u1 5 _ (by decide) (Or.inl rfl) e5
  have e1_6 := u1 6 _ (by decide) (Or.inl rfl) e6
  refine hI_go (pc' := 73) (off := (-28)) rfl (by decide) ?_ -- 101
  exact g0 x1 q1 lv1 e1_0 e1_1 e1_2 e1_3 e1_4 e1_5 e1_6 e1_7
theorem r_li104 {nd : Nat} {n : Int} (M : RX h0 h H) (e0 : m_lk lv 0 = some (.ref nd)) {lx6 : Int32} (e6 : m_lk lv 6 = some (.int lx6)) (lq6 : lx6.toInt = n) (l0 : 0 ≤ H nd 6) (l1 : H nd 6 ≤ 16000) (hk0 : (h_k h0 nd).1 = 3)
    (g0 : ∀ h4 : MH, ∀ H4 : Nat → Nat → Int, H4 = m_u H nd (m_u (H nd) 6 ((H nd 6) + 1)) → RX h0 h4 H4 → Q (some (.int lx6)) h4)
    : HJ 65 104 lv [] h Q := by
  refine hI_al (k := 0) rfl e0 rfl ?_ -- 104
  refine hI_dup rfl rfl rfl ?_ -- 105
  refine hR_gi (c := 2) (k := 6) M hk0 rfl rfl rfl rfl (fun x1 q1 => ?_) -- 106
  have gb1 : -2147483648 ≤ H nd 6 ∧ H nd 6 ≤ 2147483647 := by rw [← q1]; exact g_iT _
  refine hM_ic (n := 1) rfl (by decide) rfl (fun x2 q2 => ?_) -- 109
  refine hM_add rfl q1 q2 (by omega) (by omega) rfl (fun x3 q3 => ?_) -- 110
  refine hR_pi (c := 2) (k := 6) M hk0 rfl rfl ⟨by decide, by decide +kernel, rfl⟩ q3 rfl (fun h4 H4 f4 M4 => ?_) -- 111
  refine hI_il2 (k := 6) rfl e6 rfl ?_ -- 114
  refine hI_ri rfl rfl ?_ -- 116
  exact g0 h4 H4 f4 M4
-- the other children go along
theorem l_liC {nd n u k : Nat} {d : Int} {H1 : Nat → Nat → Int} {xu xk xn : Int32} (ok : nl_ok h0 nd) (s0 : H1 nd 5 = (n : Int) + 1) (s1 : (n : Int) + 1 ≤ ((h_k h0 (h_r h0 nd 1)).2 : Int)) (n1 : n ≤ 15999) (un : u < n) (k4 : k ≤ 4) (qu : xu.toInt = (u : Int)) (qk : xk.toInt = (k : Int)) (qn : xn.toInt = (n : Int)) (g : ∀ (lv : List (Nat × Value)) (h' : MH) (H' : Nat → Nat → Int), RX h0 h' H' → (∀ a, a ≠ h_r h0 nd 0 → H' a = H1 a) → (∀ q, q < 7 * n + 2 → H' (h_r h0 nd 0) q = H1 (h_r h0 nd 0) q) → H' (h_r h0 nd 0) (7 * n + 2) = d → (∀ q, q < k → H' (h_r h0 nd 0) (7 * n + 3 + q) = H1 (h_r h0 nd 0) (7 * u + 2 + q)) → m_lk lv 0 = some (.ref nd) → m_lk lv 6 = some (.int xn) → HJ 65 104 lv [] h' Q) : ∀ (e j : Nat) (lv : List (Nat × Value)) (h : MH) (H : Nat → Nat → Int) (xa xb xt xj : Int32), j + e = k → xj.toInt = (j : Int) → RX h0 h H → (∀ a, a ≠ h_r h0 nd 0 → H a = H1 a) → (∀ q, q < 7 * n + 2 → H (h_r h0 nd 0) q = H1 (h_r h0 nd 0) q) → H (h_r h0 nd 0) (7 * n + 2) = d → (∀ q, q < j → H (h_r h0 nd 0) (7 * n + 3 + q) = H1 (h_r h0 nd 0) (7 * u + 2 + q)) → m_lk lv 0 = some (.ref nd) → m_lk lv 1 = some (.int xa) → m_lk lv 2 = some (.int xb) → m_lk lv 3 = some (.int xt) → m_lk lv 4 = some (.int xu) → m_lk lv 5 = some (.int xk) → m_lk lv 6 = some (.int xn) → m_lk lv 7 = some (.int xj) → HJ 65 73 lv [] h Q := by
  obtain ⟨⟨o1, o2, o3⟩, ⟨c1, c16, cl⟩, ⟨d1, d16, dl⟩, l1, ⟨m0, m1⟩, l2, l3⟩ := ok
  have nC : nd ≠ h_r h0 nd 0 := fun z => by rw [← z] at c1; omega
  intro e
  induction e with
  | zero =>
    intro j lv h H xa xb xt xj he hj M p1 p2 p3 p4 e0 e1 e2 e3 e4 e5 e6 e7
    exact r_li73 M e0 e1 rfl e2 rfl e3 rfl e4 qu e5 qk e6 qn e7 hj (by omega) (by omega) o2 o1 (fun _ => g lv h H M p1 p2 p3 (fun q hq => p4 q (by omega)) e0 e6) (fun _ _ c => absurd c (by omega))
  | succ e ih =>
    intro j lv h H xa xb xt xj he hj M p1 p2 p3 p4 e0 e1 e2 e3 e4 e5 e6 e7
    have h5 : H nd 5 = (n : Int) + 1 := by rw [p1 nd nC]; exact s0
    refine r_li73 M e0 e1 rfl e2 rfl e3 rfl e4 qu e5 qk e6 qn e7 hj (by omega) (by omega) o2 o1 (fun c => absurd c (by omega)) (fun x2 q2 _ => ?_)
    refine r_ch M rfl rfl qu rfl hj (by omega) (by omega) o1 c1 (by omega) (fun _ _ _ c => absurd c (by omega)) (fun _ _ _ _ c => absurd c (by omega)) (fun _ _ _ _ _ c => absurd c (by omega)) (fun _ _ _ _ _ _ c => absurd c (by omega)) (fun xc qc _ _ _ _ _ => ?_)
    rw [show ((u : Int) * 7 + 2 + (j : Int)).toNat = 7 * u + 2 + j by omega, p2 _ (by omega)] at qc
    refine r_li95 M e0 e1 rfl e2 rfl e3 rfl e4 qu e5 qk e6 qn e7 hj (sq1 := qn) (sq2 := q2) (sq3 := qc) o2 o1 ?_
    refine k_sc M ⟨⟨o1, o2⟩, ⟨c1, c16⟩, by omega⟩ (by omega) (by omega) qn q2 qc (by omega) (by omega) (by omega) (by omega) (fun h2 H2 f2 M2 => ?_)
    refine r_li98 M2 e0 e1 rfl e2 rfl e3 rfl e4 qu e5 qk e6 qn e7 hj (by omega) (by omega) (fun x3 q3 lv3 a0 a1 a2 a3 a4 a5 a6 a7 => ?_)
    have ix : 7 * (n : Int).toNat + 2 + ((j : Int) + 1).toNat = 7 * n + 3 + j := by omega
    rw [ix] at f2
    refine ih (j + 1) lv3 h2 H2 xa xb xt x3 (by omega) (by omega) M2 (fun a ha => by rw [f2, m_uN _ _ _ _ ha]; exact p1 a ha) (fun q hq => by rw [f2, m_uE, m_uN _ _ _ _ (by omega)]; exact p2 q hq) (by rw [f2, m_uE, m_uN _ _ _ _ (by omega)]; exact p3) (fun q hq => ?_) a0 a1 a2 a3 a4 a5 a6 a7
    rw [f2, m_uE]
    by_cases z : q = j
    · rw [z, m_uE]
    · rw [m_uN _ _ _ _ (by omega)]
      exact p4 q (by omega)
-- behind the choice: u above, d below
theorem k_li36 {nd : Nat} {S : PSt} {u d t : Int} {xa xb xt xu xk : Int32} (ok : nl_ok h nd) (I : cs_of h (z_i h) nd S) (cap : ps_n S ≤ 15999) (u0 : 0 ≤ u) (u1 : u < (ps_n S : Int)) (r4 : ps_k S u.toNat ≤ 4) (qt : xt.toInt = t) (qd : (t = 0 ∧ xb.toInt = d) ∨ (t ≠ 0 ∧ xa.toInt = d)) (qu : xu.toInt = u) (qk : xk.toInt = ps_k S u.toNat) (e0 : m_lk lv 0 = some (.ref nd)) (e1 : m_lk lv 1 = some (.int xa)) (e2 : m_lk lv 2 = some (.int xb)) (e3 : m_lk lv 3 = some (.int xt)) (e4 : m_lk lv 4 = some (.int xu)) (g : ∀ (x : Int32) (h' : MH), x.toInt = (ps_n S : Int) → nl_ok h' nd → cs_of h' (z_i h') nd (ps_lk S u d) → FX nd (fun _ => False) h h' → Q (some (.int x)) h') : HJ 65 36 lv [.int xk] h Q := by
  have M := RX.start h
  have i1 : z_i h nd 5 = (ps_n S : Int) := I.1
  have i2 : z_i h nd 6 = ps_l S := I.2.1
  obtain ⟨uw, ut, uy, ur, uk, uc⟩ := I.2.2.2.2 u.toNat (by omega)
  have nok := nl_nd ok i1
  refine r_li36 M e0 e1 rfl e2 rfl e3 qt e4 qu qk ok.1.2.1 ok.1.1 (fun lv1 a0 a1 a2 a3 a4 a5 => ?_)
  refine k_wt M nok I qu u0 u1 (fun xw qw => ?_)
  refine r_li45 M a0 a1 rfl a2 rfl a3 qt a4 qu a5 qk qw uk.1 (by omega) ok.1.2.1 ok.1.1 (fun x2 q2 => ?_)
  refine k_make ok (by omega) qw q2 (fun xn h1 qn T => ?_)
  obtain ⟨ok1, F1, t5, tk, tc, tw, tr, tl, tz⟩ := T
  rw [i1] at t5 tc tw tr tl tz qn
  rw [Int.toNat_natCast] at tw tr tz
  have nC : nd ≠ h_r h1 nd 0 := fun z => by have a := ok1.1.1; have b := ok1.2.1.1; rw [← z] at b; omega
  have nok1 : nd_ok h1 nd ((fun a j => (h_i h1 a j).toInt) nd 5).toNat := nl_nd ok1 (by show z_i h1 nd 5 = ((z_i h1 nd 5).toNat : Int); omega)
  have M1 := RX.start h1
  have rest : ∀ (lv2 : List (Nat × Value)) (h2 : MH) (H2 : Nat → Nat → Int), H2 = m_u (fun a j => (h_i h1 a j).toInt) (h_r h1 nd 0) (m_u (fun j => (h_i h1 (h_r h1 nd 0) j).toInt) (7 * ps_n S + 2) d) → RX h1 h2 H2 → m_lk lv2 0 = some (.ref nd) → m_lk lv2 1 = some (.int xa) → m_lk lv2 2 = some (.int xb) → m_lk lv2 3 = some (.int xt) → m_lk lv2 4 = some (.int xu) → m_lk lv2 5 = some (.int xk) → m_lk lv2 6 = some (.int xn) → HJ 65 70 lv2 [] h2 Q := fun lv2 h2 H2 f2 M2 b0 b1 b2 b3 b4 b5 b6 => by
    have nu : u.toNat < ps_n S := by omega
    refine r_li70 M2 b0 b1 rfl b2 rfl b3 qt b4 qu b5 qk b6 qn (fun x3 q3 lv3 d0 d1 d2 d3 d4 d5 d6 d7 => ?_)
    have m1 := ok1.2.2.2.2.1.2
    refine l_liC (n := ps_n S) (u := u.toNat) (k := (ps_k S u.toNat).toNat) (d := d) (H1 := z_i h1) ok1 t5 (by omega) cap nu (by omega) (by omega) (by omega) qn (fun lv4 h4 H4 M4 p1 p2 p3 p4 g0 g6 => ?_) (ps_k S u.toNat).toNat 0 lv3 h2 H2 xa xb xt x3 (by omega) q3 M2 (fun a ha => by rw [f2, m_uN _ _ _ _ ha]; rfl) (fun q hq => by rw [f2, m_uE, m_uN _ _ _ _ (by omega)]; rfl) (by rw [f2, m_uE, m_uE]) (fun q hq => by omega) d0 d1 d2 d3 d4 d5 d6 d7
    have l6 : H4 nd 6 = ps_l S := by rw [p1 nd nC, tk 6 (by decide), i2]
    have i3 := I.2.2.1
    refine r_li104 M4 g0 g6 qn (by omega) (by omega) ok1.1.1 (fun h5 H5 f5 M5 => g xn h5 qn (nl_RX ok1 M5 ?_) ?_ (F1.trans (FX.ofRX M5 (by rw [f5, m_uE, m_uN _ _ _ _ (by decide), p1 nd nC]) ?_)))
    · rw [f5, m_uE, m_uN _ _ _ _ (by decide), p1 nd nC]
    · have r5 : h_r h5 nd 0 = h_r h1 nd 0 := by rw [M5.2.2.1.1]
      have C5 : ∀ j, z_i h5 (h_r h5 nd 0) j = H4 (h_r h1 nd 0) j := fun j => by rw [r5, M5.zi, f5, m_uN _ _ _ _ (Ne.symm nC)]
      refine cs_mk I cap ?_ ?_ (by omega) (by omega) (fun j hj => ?_) ut.1 ut.2 uy.1 uy.2 (by omega) (by omega) ?_ ?_ (fun r hr => ?_)
      · rw [M5.zi, f5, m_uE, m_uN _ _ _ _ (by decide), p1 nd nC]
        exact t5
      · rw [M5.zi, f5, m_uE, m_uE, l6]
      · rw [C5, p2 j (by omega)]
        exact tc j (by omega)
      · rw [C5, p2 _ (by omega)]
        exact tw
      · rw [C5, p2 _ (by omega)]
        exact tr
      · rw [C5]
        by_cases c : (r : Int) < ps_k S u.toNat
        · rw [if_pos c, ← uc r c, show 7 * ps_n S + 2 + ((ps_k S u.toNat + 1).toNat - 1 - r) = 7 * ps_n S + 3 + ((ps_k S u.toNat).toNat - 1 - r) by omega, p4 _ (by omega), show 7 * u.toNat + 2 + ((ps_k S u.toNat).toNat - 1 - r) = 7 * u.toNat + 2 + ((ps_k S u.toNat).toNat - 1 - r) from rfl]
          exact tc _ (by omega)
        · rw [if_neg c, show 7 * ps_n S + 2 + ((ps_k S u.toNat + 1).toNat - 1 - r) = 7 * ps_n S + 2 by omega]
          exact p3
    · intro a ha j
      have a1 : a ≠ nd := fun z => ha (Or.inl z)
      have a2 : a ≠ h_r h1 nd 0 := fun z => ha (Or.inr (Or.inl z))
      rw [f5, m_uN _ _ _ _ a1, p1 a a2]
  have ix : 7 * (ps_n S : Int).toNat + 2 + (0 : Int).toNat = 7 * ps_n S + 2 := by omega
  have c5 : (h_i h1 nd 5).toInt = (ps_n S : Int) + 1 := t5
  refine r_li52 M1 a0 a1 rfl a2 rfl a3 qt a4 qu a5 qk qn ok1.1.2.1 ok1.1.1 (fun x3 q3 lv2 b0 b1 b2 b3 b4 b5 b6 c => ?_) (fun x3 q3 lv2 b0 b1 b2 b3 b4 b5 b6 c => ?_)
  · have qb : xb.toInt = d := by
      rcases qd with z | z
      · exact z.2
      · exact absurd c z.1
    refine k_sc M1 nok1 (by omega) (by omega) qn q3 qb (by omega) (by omega) (by omega) (by omega) (fun h2 H2 f2 M2 => ?_)
    rw [ix] at f2
    exact rest lv2 h2 H2 f2 M2 b0 b1 b2 b3 b4 b5 b6
  · have qa : xa.toInt = d := by
      rcases qd with z | z
      · exact absurd z.1 c
      · exact z.2
    refine k_sc M1 nok1 (by omega) (by omega) qn q3 qa (by omega) (by omega) (by omega) (by omega) (fun h2 H2 f2 M2 => ?_)
    rw [ix] at f2
    exact rest lv2 h2 H2 f2 M2 b0 b1 b2 b3 b4 b5 b6
theorem k_link {nd : Nat} {S : PSt} {a b : Int} {xa xb : Int32} (ok : nl_ok h nd) (I : cs_of h (z_i h) nd S) (cap : ps_n S ≤ 15999) (qa : xa.toInt = a) (qb : xb.toInt = b) (a0 : 0 ≤ a) (a1 : a < (ps_n S : Int)) (b0 : 0 ≤ b) (b1 : b < (ps_n S : Int)) (ra : ps_k S a.toNat ≤ 4) (rb : ps_k S b.toNat ≤ 4) (g : ∀ (x : Int32) (h' : MH), x.toInt = (ps_n S : Int) → nl_ok h' nd → cs_of h' (z_i h') nd (ps_link S a b) → FX nd (fun _ => False) h h' → Q (some (.int x)) h') : HJ 65 0 (lv_args 0 [.ref nd, .int xa, .int xb]) [] h Q := by
  have M := RX.start h
  have nok := nl_nd ok I.1
  refine r_li0 M rfl rfl qa rfl qb ok.1.2.1 ok.1.1 (k_wt M nok I qb b0 b1 (fun xw qw => ?_))
  refine r_li5 M rfl rfl qa rfl qb qw ok.1.2.1 ok.1.1 (k_wt M nok I qa a0 a1 (fun xv qv => ?_))
  have L := cs_ls I b0 b1 a0 a1
  refine r_li10 M rfl rfl qa rfl qb qw qv ok.1.2.1 ok.1.1 (fun x1 q1 lv3 e0 e1 e2 e3 e4 c => k_rk M nok I qa a0 a1 (fun xk qk => ?_)) (fun x1 q1 lv3 e0 e1 e2 e3 e4 c => k_rk M nok I qb b0 b1 (fun xk qk => ?_))
  · have nl : ¬ ps_ls S b a := fun z => by
      have := L.mpr z
      omega
    refine k_li36 (u := a) (d := b) ok I cap a0 a1 ra q1 (Or.inl ⟨rfl, qb⟩) qa qk e0 e1 e2 e3 e4 (fun x h' qx o I' F => g x h' qx o ?_ F)
    unfold ps_link
    rw [(ps_udF nl).1, (ps_udF nl).2]
    exact I'
  · have nl : ps_ls S b a := L.mp c
    refine k_li36 (u := b) (d := a) ok I cap b0 b1 rb q1 (Or.inr ⟨by decide, qa⟩) qb qk e0 e1 e2 e3 e4 (fun x h' qx o I' F => g x h' qx o ?_ F)
    unfold ps_link
    rw [(ps_udT nl).1, (ps_udT nl).2]
    exact I'
-- MELD
theorem r_me0 {nd hp ot : Nat} (M : RX h0 h H) (e0 : m_lk lv 0 = some (.ref nd)) (e1 : m_lk lv 1 = some (.ref hp)) (e2 : m_lk lv 2 = some (.ref ot)) 
    (g0 : ∀ x1 : Int32, x1.toInt = (-1) → ∀ x3 : Int32, x3.toInt = 0 → ∀ lv4 : List (Nat × Value), m_lk lv4 0 = some (.ref nd) → m_lk lv4 1 = some (.ref hp) → m_lk lv4 2 = some (.ref ot) → m_lk lv4 3 = some (.int x1) → m_lk lv4 4 = some (.int x3) → HJ 64 5 lv4 [] h Q)
    : HJ 64 0 lv [] h Q := by
  refine hM_ic (n := (-1)) rfl (by decide) rfl (fun x1 q1 => ?_) -- 0
  refine hM_si (k := 3) rfl (by decide +kernel) rfl (fun lv2 e2_3 u2 => ?_) -- 1
  have e2_0 := u2 0 _ (by decide) (Or.inl rfl) e0
  have e2_1 := u2 1 _ (by decide) (Or.inl rfl) e1
  have e2_2 := u2 2 _ (by decide) (Or.inl rfl) e2
  refine hM_ic (n := 0) rfl (by decide) rfl (fun x3 q3 => ?_) -- 2
  refine hM_si2 (k := 4) rfl (by decide +kernel) rfl (fun lv4 e4_4 u4 => ?_) -- 3
  have e4_0 := u4 0 _ (by decide) (Or.inl rfl) e2_0
  have e4_1 := u4 1 _ (by decide) (Or.inl rfl) e2_1
  have e4_2 := u4 2 _ (by decide) (Or.inl rfl) e2_2
  have e4_3 := u4 3 _ (by decide) (Or.inl rfl) e2_3
  exact g0 x1 q1 x3 q3 lv4 e4_0 e4_1 e4_2 e4_3 e4_4
theorem r_me5 {nd hp ot : Nat} {c r : Int} (M : RX h0 h H) (e0 : m_lk lv 0 = some (.ref nd)) (e1 : m_lk lv 1 = some (.ref hp)) (e2 : m_lk lv 2 = some (.ref ot)) {lx3 : Int32} (e3 : m_lk lv 3 = some (.int lx3)) (lq3 : lx3.toInt = c) {lx4 : Int32} (e4 : m_lk lv 4 = some (.int lx4)) (lq4 : lx4.toInt = r) (r0 : 0 ≤ r) (ha0 : (h_k h0 hp).1 = 20) (hl0 : 6 ≤ ((h_k h0 hp).2 : Int)) (ha1 : (h_k h0 ot).1 = 20) (hl1 : 6 ≤ ((h_k h0 ot).2 : Int)) (hs0 : 16 ≤ hp) (hs1 : 16 ≤ nd) (hk0 : (h_k h0 nd).1 = 3)
    (g0 : r ≥ 6 → Q none h)
    (g1 : ∀ h13 : MH, ∀ H13 : Nat → Nat → Int, H13 = m_u H hp (m_u (H hp) (r).toNat (H ot (r).toNat)) → ∀ x14 : Int32, x14.toInt = (-1) → ∀ lv15 : List (Nat × Value), RX h0 h13 H13 → m_lk lv15 0 = some (.ref nd) → m_lk lv15 1 = some (.ref hp) → m_lk lv15 2 = some (.ref ot) → m_lk lv15 3 = some (.int x14) → m_lk lv15 4 = some (.int lx4) → r < 6 → H hp (r).toNat = (-1) → c = (-1) → HJ 64 127 lv15 [] h13 Q)
    (g2 : ∀ h20 : MH, ∀ H20 : Nat → Nat → Int, H20 = m_u H hp (m_u (H hp) (r).toNat (c)) → ∀ x21 : Int32, x21.toInt = (-1) → ∀ lv22 : List (Nat × Value), RX h0 h20 H20 → m_lk lv22 0 = some (.ref nd) → m_lk lv22 1 = some (.ref hp) → m_lk lv22 2 = some (.ref ot) → m_lk lv22 3 = some (.int x21) → m_lk lv22 4 = some (.int lx4) → r < 6 → H hp (r).toNat = (-1) → c ≠ (-1) → H ot (r).toNat = (-1) → HJ 64 127 lv22 [] h20 Q)
    (g3 : ∀ x4 : Int32, x4.toInt = H ot (r).toNat → ∀ h26 : MH, ∀ H26 : Nat → Nat → Int, H26 = m_u H hp (m_u (H hp) (r).toNat ((-1))) → ∀ lv24 : List (Nat × Value), RX h0 h26 H26 → m_lk lv24 0 = some (.ref nd) → m_lk lv24 1 = some (.ref hp) → m_lk lv24 2 = some (.ref ot) → m_lk lv24 3 = some (.int lx3) → m_lk lv24 4 = some (.int lx4) → r < 6 → H hp (r).toNat = (-1) → c ≠ (-1) → H ot (r).toNat ≠ (-1) → HJ 65 0 (lv_args 0 [.ref nd, .int lx3, .int x4]) [] h26 (fun v h' => HJ 64 122 lv24 (v.toList ++ []) h' Q))
    (g4 : ∀ h34 : MH, ∀ H34 : Nat → Nat → Int, H34 = m_u H hp (m_u (H hp) (r).toNat (H hp (r).toNat)) → ∀ x35 : Int32, x35.toInt = (-1) → ∀ lv36 : List (Nat × Value), RX h0 h34 H34 → m_lk lv36 0 = some (.ref nd) → m_lk lv36 1 = some (.ref hp) → m_lk lv36 2 = some (.ref ot) → m_lk lv36 3 = some (.int x35) → m_lk lv36 4 = some (.int lx4) → r < 6 → H hp (r).toNat ≠ (-1) → H ot (r).toNat = (-1) → c = (-1) → HJ 64 127 lv36 [] h34 Q)
    (g5 : ∀ x2 : Int32, x2.toInt = H hp (r).toNat → ∀ h41 : MH, ∀ H41 : Nat → Nat → Int, H41 = m_u H hp (m_u (H hp) (r).toNat ((-1))) → ∀ lv39 : List (Nat × Value), RX h0 h41 H41 → m_lk lv39 0 = some (.ref nd) → m_lk lv39 1 = some (.ref hp) → m_lk lv39 2 = some (.ref ot) → m_lk lv39 3 = some (.int lx3) → m_lk lv39 4 = some (.int lx4) → r < 6 → H hp (r).toNat ≠ (-1) → H ot (r).toNat = (-1) → c ≠ (-1) → HJ 65 0 (lv_args 0 [.ref nd, .int lx3, .int x2]) [] h41 (fun v h' => HJ 64 122 lv39 (v.toList ++ []) h' Q))
    (g6 : ∀ x2 : Int32, x2.toInt = H hp (r).toNat → ∀ x4 : Int32, x4.toInt = H ot (r).toNat → ∀ h42 : MH, ∀ H42 : Nat → Nat → Int, H42 = m_u H hp (m_u (H hp) (r).toNat (c)) → ∀ lv5 : List (Nat × Value), RX h0 h42 H42 → m_lk lv5 0 = some (.ref nd) → m_lk lv5 1 = some (.ref hp) → m_lk lv5 2 = some (.ref ot) → m_lk lv5 3 = some (.int lx3) → m_lk lv5 4 = some (.int lx4) → r < 6 → H hp (r).toNat ≠ (-1) → H ot (r).toNat ≠ (-1) → HJ 65 0 (lv_args 0 [.ref nd, .int x2, .int x4]) [] h42 (fun v h' => HJ 64 49 lv5 (v.toList ++ []) h' Q))
    : HJ 64 5 lv [] h Q := by
  refine hI_il2 (k := 4) rfl e4 rfl ?_ -- 5
  refine hM_bp (n := 6) rfl (by decide) rfl (fun x1 q1 => ?_) -- 7
  refine hM_cge (off := 124) (t := 133) rfl lq4 q1 (by decide) rfl (fun c9 => ?_) (fun c9 => ?_) -- 9
  · refine hI_rv rfl rfl ?_
    exact g0 c9
  · refine hI_al (k := 1) rfl e1 rfl ?_ -- 12
    refine hI_il2 (k := 4) rfl e4 rfl ?_ -- 13
    refine hR_ia M ha0 lq4 (by omega) (by omega) rfl rfl (fun x2 q2 => ?_) -- 15
    have gb2 : -2147483648 ≤ H hp (r).toNat ∧ H hp (r).toNat ≤ 2147483647 := by rw [← q2]; exact g_iT _
    refine hM_si2 (k := 5) rfl (by decide +kernel) rfl (fun lv3 e3_5 u3 => ?_) -- 16
    have e3_0 := u3 0 _ (by decide) (Or.inl rfl) e0
    have e3_1 := u3 1 _ (by decide) (Or.inl rfl) e1
    have e3_2 := u3 2 _ (by decide) (Or.inl rfl) e2
    have e3_3 := u3 3 _ (by decide) (Or.inl rfl) e3
    have e3_4 := u3 4 _ (by decide) (Or.inl rfl) e4
    refine hI_al (k := 2) rfl e3_2 rfl ?_ -- 18
    refine hI_il2 (k := 4) rfl e3_4 rfl ?_ -- 19
    refine hR_ia M ha1 lq4 (by omega) (by omega) rfl rfl (fun x4 q4 => ?_) -- 21
    have gb4 : -2147483648 ≤ H ot (r).toNat ∧ H ot (r).toNat ≤ 2147483647 := by rw [← q4]; exact g_iT _
    refine hM_si2 (k := 6) rfl (by decide +kernel) rfl (fun lv5 e5_6 u5 => ?_) -- 22
    have e5_0 := u5 0 _ (by decide) (Or.inl rfl) e3_0
    have e5_1 := u5 1 _ (by decide) (Or.inl rfl) e3_1
    have e5_2 := u5 2 _ (by decide) (Or.inl rfl) e3_2
    have e5_3 := u5 3 _ (by decide) (Or.inl rfl) e3_3
    have e5_4 := u5 4 _ (by decide) (Or.inl rfl) e3_4
    have e5_5 := u5 5 _ (by decide) (Or.inl rfl) e3_5
    refine hI_il2 (k := 5) rfl e5_5 rfl ?_ -- 24
    refine hM_ic (n := (-1)) rfl (by decide) rfl (fun x6 q6 => ?_) -- 26
    refine hM_ceq (off := 26) (t := 53) rfl q2 q6 (by decide) rfl (fun c27 => ?_) (fun c27 => ?_) -- 27
    · refine hI_il2 (k := 5) rfl e5_5 rfl ?_ -- 53
      refine hM_ic (n := (-1)) rfl (by decide) rfl (fun x7 q7 => ?_) -- 55
      refine hM_cne (off := 8) (t := 64) rfl q2 q7 (by decide) rfl (fun c56 => ?_) (fun c56 => ?_) -- 56
      · exfalso; omega
      · refine hI_il2 (k := 6) rfl e5_6 rfl ?_ -- 59
        refine hI_go (pc' := 66) (off := 5) rfl (by decide) ?_ -- 61
        refine hM_si2 (k := 7) rfl (by decide +kernel) rfl (fun lv8 e8_7 u8 => ?_) -- 66
        have e8_0 := u8 0 _ (by decide) (Or.inl rfl) e5_0
        have e8_1 := u8 1 _ (by decide) (Or.inl rfl) e5_1
        have e8_2 := u8 2 _ (by decide) (Or.inl rfl) e5_2
        have e8_3 := u8 3 _ (by decide) (Or.inl rfl) e5_3
        have e8_4 := u8 4 _ (by decide) (Or.inl rfl) e5_4
        have e8_5 := u8 5 _ (by decide) (Or.inl rfl) e5_5
        have e8_6 := u8 6 _ (by decide) (Or.inl rfl) e5_6
        refine hI_il (k := 3) rfl e8_3 rfl ?_ -- 68
        refine hM_ic (n := (-1)) rfl (by decide) rfl (fun x9 q9 => ?_) -- 69
        refine hM_ceq (off := 13) (t := 83) rfl lq3 q9 (by decide) rfl (fun c70 => ?_) (fun c70 => ?_) -- 70
        · refine hM_ic (n := 0) rfl (by decide) rfl (fun x10 q10 => ?_) -- 83
          refine hM_si2 (k := 8) rfl (by decide +kernel) rfl (fun lv11 e11_8 u11 => ?_) -- 84
          have e11_0 := u11 0 _ (by decide) (Or.inl rfl) e8_0
          have e11_1 := u11 1 _ (by decide) (Or.inl rfl) e8_1
          have e11_2 := u11 2 _ (by decide) (Or.inl rfl) e8_2
          have e11_3 := u11 3 _ (by decide) (Or.inl rfl) e8_3
          have e11_4 := u11 4 _ (by decide) (Or.inl rfl) e8_4
          have e11_5 := u11 5 _ (by decide) (Or.inl rfl) e8_5
          have e11_6 := u11 6 _ (by decide) (Or.inl rfl) e8_6
          have e11_7 := u11 7 _ (by decide) (Or.inl rfl) e8_7
          refine hI_al (k := 1) rfl e11_1 rfl ?_ -- 86
          refine hI_il2 (k := 4) rfl e11_4 rfl ?_ -- 87
          refine hI_il2 (k := 8) rfl e11_8 rfl ?_ -- 89
          refine hM_zeq (off := 7) (t := 98) rfl q10 (by decide) rfl (fun c91 => ?_) (fun c91 => ?_) -- 91
          · refine hI_il (k := 3) rfl e11_3 rfl ?_ -- 98
            refine hM_ic (n := (-1)) rfl (by decide) rfl (fun x12 q12 => ?_) -- 99
            refine hM_cne (off := 8) (t := 108) rfl lq3 q12 (by decide) rfl (fun c100 => ?_) (fun c100 => ?_) -- 100
            · exfalso; omega
            · refine hI_il2 (k := 7) rfl e11_7 rfl ?_ -- 103
              refine hI_go (pc' := 109) (off := 4) rfl (by decide) ?_ -- 105
              refine hR_is M hs0 ha0 lq4 q4 (by omega) (by omega) rfl rfl (fun h13 H13 f13 M13 => ?_) -- 109
              refine hI_il2 (k := 8) rfl e11_8 rfl ?_ -- 110
              refine hM_zeq (off := 13) (t := 125) rfl q10 (by decide) rfl (fun c112 => ?_) (fun c112 => ?_) -- 112
              · refine hM_ic (n := (-1)) rfl (by decide) rfl (fun x14 q14 => ?_) -- 125
                refine hM_si (k := 3) rfl (by decide +kernel) rfl (fun lv15 e15_3 u15 => ?_) -- 126
                have e15_0 := u15 0 _ (by decide) (Or.inl rfl) e11_0
                have e15_1 := u15 1 _ (by decide) (Or.inl rfl) e11_1
                have e15_2 := u15 2 _ (by decide) (Or.inl rfl) e11_2
                have e15_4 := u15 4 _ (by decide) (Or.inl rfl) e11_4
                have e15_5 := u15 5 _ (by decide) (Or.inl rfl) e11_5
                have e15_6 := u15 6 _ (by decide) (Or.inl rfl) e11_6
                have e15_7 := u15 7 _ (by decide) (Or.inl rfl) e11_7
                have e15_8 := u15 8 _ (by decide) (Or.inl rfl) e11_8
                exact g1 h13 H13 f13 x14 q14 lv15 M13 e15_0 e15_1 e15_2 e15_3 e15_4 c9 c27 c70
              · exfalso; omega
          · exfalso; omega
        · refine hI_il2 (k := 7) rfl e8_7 rfl ?_ -- 73
          refine hM_ic (n := (-1)) rfl (by decide) rfl (fun x16 q16 => ?_) -- 75
          refine hM_ceq (off := 7) (t := 83) rfl q4 q16 (by decide) rfl (fun c76 => ?_) (fun c76 => ?_) -- 76
          · refine hM_ic (n := 0) rfl (by decide) rfl (fun x17 q17 => ?_) -- 83
            refine hM_si2 (k := 8) rfl (by decide +kernel) rfl (fun lv18 e18_8 u18 => ?_) -- 84
            have e18_0 := u18 0 _ (by decide) (Or.inl rfl) e8_0
            have e18_1 := u18 1 _ (by decide) (Or.inl rfl) e8_1
            have e18_2 := u18 2 _ (by decide) (Or.inl rfl) e8_2
            have e18_3 := u18 3 _ (by decide) (Or.inl rfl) e8_3
            have e18_4 := u18 4 _ (by decide) (Or.inl rfl) e8_4
            have e18_5 := u18 5 _ (by decide) (Or.inl rfl) e8_5
            have e18_6 := u18 6 _ (by decide) (Or.inl rfl) e8_6
            have e18_7 := u18 7 _ (by decide) (Or.inl rfl) e8_7
            refine hI_al (k := 1) rfl e18_1 rfl ?_ -- 86
            refine hI_il2 (k := 4) rfl e18_4 rfl ?_ -- 87
            refine hI_il2 (k := 8) rfl e18_8 rfl ?_ -- 89
            refine hM_zeq (off := 7) (t := 98) rfl q17 (by decide) rfl (fun c91 => ?_) (fun c91 => ?_) -- 91
            · refine hI_il (k := 3) rfl e18_3 rfl ?_ -- 98
              refine hM_ic (n := (-1)) rfl (by decide) rfl (fun x19 q19 => ?_) -- 99
              refine hM_cne (off := 8) (t := 108) rfl lq3 q19 (by decide) rfl (fun c100 => ?_) (fun c100 => ?_) -- 100
              · refine hI_il (k := 3) rfl e18_3 rfl ?_ -- 108
                refine hR_is M hs0 ha0 lq4 lq3 (by omega) (by omega) rfl rfl (fun h20 H20 f20 M20 => ?_) -- 109
                refine hI_il2 (k := 8) rfl e18_8 rfl ?_ -- 110
                refine hM_zeq (off := 13) (t := 125) rfl q17 (by decide) rfl (fun c112 => ?_) (fun c112 => ?_) -- 112
                · refine hM_ic (n := (-1)) rfl (by decide) rfl (fun x21 q21 => ?_) -- 125
                  refine hM_si (k := 3) rfl (by decide +kernel) rfl (fun lv22 e22_3 u22 => ?_) -- 126
                  have e22_0 := u22 0 _ (by decide) (Or.inl rfl) e18_0
                  have e22_1 := u22 1 _ (by decide) (Or.inl rfl) e18_1
                  have e22_2 := u22 2 _ (by decide) (Or.inl rfl) e18_2
                  have e22_4 := u22 4 _ (by decide) (Or.inl rfl) e18_4
                  have e22_5 := u22 5 _ (by decide) (Or.inl rfl) e18_5
                  have e22_6 := u22 6 _ (by decide) (Or.inl rfl) e18_6
                  have e22_7 := u22 7 _ (by decide) (Or.inl rfl) e18_7
                  have e22_8 := u22 8 _ (by decide) (Or.inl rfl) e18_8
                  exact g2 h20 H20 f20 x21 q21 lv22 M20 e22_0 e22_1 e22_2 e22_3 e22_4 c9 c27 c70 c76
                · exfalso; omega
              · exfalso; omega
            · exfalso; omega
          · refine hM_ic (n := 1) rfl (by decide) rfl (fun x23 q23 => ?_) -- 79
            refine hI_go (pc' := 84) (off := 4) rfl (by decide) ?_ -- 80
            refine hM_si2 (k := 8) rfl (by decide +kernel) rfl (fun lv24 e24_8 u24 => ?_) -- 84
            have e24_0 := u24 0 _ (by decide) (Or.inl rfl) e8_0
            have e24_1 := u24 1 _ (by decide) (Or.inl rfl) e8_1
            have e24_2 := u24 2 _ (by decide) (Or.inl rfl) e8_2
            have e24_3 := u24 3 _ (by decide) (Or.inl rfl) e8_3
            have e24_4 := u24 4 _ (by decide) (Or.inl rfl) e8_4
            have e24_5 := u24 5 _ (by decide) (Or.inl rfl) e8_5
            have e24_6 := u24 6 _ (by decide) (Or.inl rfl) e8_6
            have e24_7 := u24 7 _ (by decide) (Or.inl rfl) e8_7
            refine hI_al (k := 1) rfl e24_1 rfl ?_ -- 86
            refine hI_il2 (k := 4) rfl e24_4 rfl ?_ -- 87
            refine hI_il2 (k := 8) rfl e24_8 rfl ?_ -- 89
            refine hM_zeq (off := 7) (t := 98) rfl q23 (by decide) rfl (fun c91 => ?_) (fun c91 => ?_) -- 91
            · exfalso; omega
            · refine hM_ic (n := (-1)) rfl (by decide) rfl (fun x25 q25 => ?_) -- 94
              refine hI_go (pc' := 109) (off := 14) rfl (by decide) ?_ -- 95
              refine hR_is M hs0 ha0 lq4 q25 (by omega) (by omega) rfl rfl (fun h26 H26 f26 M26 => ?_) -- 109
              refine hI_il2 (k := 8) rfl e24_8 rfl ?_ -- 110
              refine hM_zeq (off := 13) (t := 125) rfl q23 (by decide) rfl (fun c112 => ?_) (fun c112 => ?_) -- 112
              · exfalso; omega
              · refine hI_al (k := 0) rfl e24_0 rfl ?_ -- 115
                refine hI_il (k := 3) rfl e24_3 rfl ?_ -- 116
                refine hI_il2 (k := 7) rfl e24_7 rfl ?_ -- 117
                refine HJ.call (j := 65) (as := [.ref nd, .int lx3, .int x4]) (rr := []) (pc' := 122) (m_cR (kc := 2) rfl rfl (by decide +kernel) rfl rfl rfl ⟨rfl, by decide +kernel, by decide +kernel⟩ (by decide) hs1 (by rw [M26.2.1]; exact hk0)) (by show 3 ≤ m_lc 65; decide +kernel) ?_ -- 119
                exact g3 x4 q4 h26 H26 f26 lv24 M26 e24_0 e24_1 e24_2 e24_3 e24_4 c9 c27 c70 c76
    · refine hI_il2 (k := 6) rfl e5_6 rfl ?_ -- 30
      refine hM_ic (n := (-1)) rfl (by decide) rfl (fun x27 q27 => ?_) -- 32
      refine hM_ceq (off := 20) (t := 53) rfl q4 q27 (by decide) rfl (fun c33 => ?_) (fun c33 => ?_) -- 33
      · refine hI_il2 (k := 5) rfl e5_5 rfl ?_ -- 53
        refine hM_ic (n := (-1)) rfl (by decide) rfl (fun x28 q28 => ?_) -- 55
        refine hM_cne (off := 8) (t := 64) rfl q2 q28 (by decide) rfl (fun c56 => ?_) (fun c56 => ?_) -- 56
        · refine hI_il2 (k := 5) rfl e5_5 rfl ?_ -- 64
          refine hM_si2 (k := 7) rfl (by decide +kernel) rfl (fun lv29 e29_7 u29 => ?_) -- 66
          have e29_0 := u29 0 _ (by decide) (Or.inl rfl) e5_0
          have e29_1 := u29 1 _ (by decide) (Or.inl rfl) e5_1
          have e29_2 := u29 2 _ (by decide) (Or.inl rfl) e5_2
          have e29_3 := u29 3 _ (by decide) (Or.inl rfl) e5_3
          have e29_4 := u29 4 _ (by decide) (Or.inl rfl) e5_4
          have e29_5 := u29 5 _ (by decide) (Or.inl rfl) e5_5
          have e29_6 := u29 6 _ (by decide) (Or.inl rfl) e5_6
          refine hI_il (k := 3) rfl e29_3 rfl ?_ -- 68
          refine hM_ic (n := (-1)) rfl (by decide) rfl (fun x30 q30 => ?_) -- 69
          refine hM_ceq (off := 13) (t := 83) rfl lq3 q30 (by decide) rfl (fun c70 => ?_) (fun c70 => ?_) -- 70
          · refine hM_ic (n := 0) rfl (by decide) rfl (fun x31 q31 => ?_) -- 83
            refine hM_si2 (k := 8) rfl (by decide +kernel) rfl (fun lv32 e32_8 u32 => ?_) -- 84
            have e32_0 := u32 0 _ (by decide) (Or.inl rfl) e29_0
            have e32_1 := u32 1 _ (by decide) (Or.inl rfl) e29_1
            have e32_2 := u32 2 _ (by decide) (Or.inl rfl) e29_2
            have e32_3 := u32 3 _ (by decide) (Or.inl rfl) e29_3
            have e32_4 := u32 4 _ (by decide) (Or.inl rfl) e29_4
            have e32_5 := u32 5 _ (by decide) (Or.inl rfl) e29_5
            have e32_6 := u32 6 _ (by decide) (Or.inl rfl) e29_6
            have e32_7 := u32 7 _ (by decide) (Or.inl rfl) e29_7
            refine hI_al (k := 1) rfl e32_1 rfl ?_ -- 86
            refine hI_il2 (k := 4) rfl e32_4 rfl ?_ -- 87
            refine hI_il2 (k := 8) rfl e32_8 rfl ?_ -- 89
            refine hM_zeq (off := 7) (t := 98) rfl q31 (by decide) rfl (fun c91 => ?_) (fun c91 => ?_) -- 91
            · refine hI_il (k := 3) rfl e32_3 rfl ?_ -- 98
              refine hM_ic (n := (-1)) rfl (by decide) rfl (fun x33 q33 => ?_) -- 99
              refine hM_cne (off := 8) (t := 108) rfl lq3 q33 (by decide) rfl (fun c100 => ?_) (fun c100 => ?_) -- 100
              · exfalso; omega
              · refine hI_il2 (k := 7) rfl e32_7 rfl ?_ -- 103
                refine hI_go (pc' := 109) (off := 4) rfl (by decide) ?_ -- 105
                refine hR_is M hs0 ha0 lq4 q2 (by omega) (by omega) rfl rfl (fun h34 H34 f34 M34 => ?_) -- 109
                refine hI_il2 (k := 8) rfl e32_8 rfl ?_ -- 110
                refine hM_zeq (off := 13) (t := 125) rfl q31 (by decide) rfl (fun c112 => ?_) (fun c112 => ?_) -- 112
                · refine hM_ic (n := (-1)) rfl (by decide) rfl (fun x35 q35 => ?_) -- 125
                  refine hM_si (k := 3) rfl (by decide +kernel) rfl (fun lv36 e36_3 u36 => ?_) -- 126
                  have e36_0 := u36 0 _ (by decide) (Or.inl rfl) e32_0
                  have e36_1 := u36 1 _ (by decide) (Or.inl rfl) e32_1
                  have e36_2 := u36 2 _ (by decide) (Or.inl rfl) e32_2
                  have e36_4 := u36 4 _ (by decide) (Or.inl rfl) e32_4
                  have e36_5 := u36 5 _ (by decide) (Or.inl rfl) e32_5
                  have e36_6 := u36 6 _ (by decide) (Or.inl rfl) e32_6
                  have e36_7 := u36 7 _ (by decide) (Or.inl rfl) e32_7
                  have e36_8 := u36 8 _ (by decide) (Or.inl rfl) e32_8
                  exact g4 h34 H34 f34 x35 q35 lv36 M34 e36_0 e36_1 e36_2 e36_3 e36_4 c9 c27 c33 c70
                · exfalso; omega
            · exfalso; omega
          · refine hI_il2 (k := 7) rfl e29_7 rfl ?_ -- 73
            refine hM_ic (n := (-1)) rfl (by decide) rfl (fun x37 q37 => ?_) -- 75
            refine hM_ceq (off := 7) (t := 83) rfl q2 q37 (by decide) rfl (fun c76 => ?_) (fun c76 => ?_) -- 76
            · exfalso; omega
            · refine hM_ic (n := 1) rfl (by decide) rfl (fun x38 q38 => ?_) -- 79
              refine hI_go (pc' := 84) (off := 4) rfl (by decide) ?_ -- 80
              refine hM_si2 (k := 8) rfl (by decide +kernel) rfl (fun lv39 e39_8 u39 => ?_) -- 84
              have e39_0 := u39 0 _ (by decide) (Or.inl rfl) e29_0
              have e39_1 := u39 1 _ (by decide) (Or.inl rfl) e29_1
              have e39_2 := u39 2 _ (by decide) (Or.inl rfl) e29_2
              have e39_3 := u39 3 _ (by decide) (Or.inl rfl) e29_3
              have e39_4 := u39 4 _ (by decide) (Or.inl rfl) e29_4
              have e39_5 := u39 5 _ (by decide) (Or.inl rfl) e29_5
              have e39_6 := u39 6 _ (by decide) (Or.inl rfl) e29_6
              have e39_7 := u39 7 _ (by decide) (Or.inl rfl) e29_7
              refine hI_al (k := 1) rfl e39_1 rfl ?_ -- 86
              refine hI_il2 (k := 4) rfl e39_4 rfl ?_ -- 87
              refine hI_il2 (k := 8) rfl e39_8 rfl ?_ -- 89
              refine hM_zeq (off := 7) (t := 98) rfl q38 (by decide) rfl (fun c91 => ?_) (fun c91 => ?_) -- 91
              · exfalso; omega
              · refine hM_ic (n := (-1)) rfl (by decide) rfl (fun x40 q40 => ?_) -- 94
                refine hI_go (pc' := 109) (off := 14) rfl (by decide) ?_ -- 95
                refine hR_is M hs0 ha0 lq4 q40 (by omega) (by omega) rfl rfl (fun h41 H41 f41 M41 => ?_) -- 109
                refine hI_il2 (k := 8) rfl e39_8 rfl ?_ -- 110
                refine hM_zeq (off := 13) (t := 125) rfl q38 (by decide) rfl (fun c112 => ?_) (fun c112 => ?_) -- 112
                · exfalso; omega
                · refine hI_al (k := 0) rfl e39_0 rfl ?_ -- 115
                  refine hI_il (k := 3) rfl e39_3 rfl ?_ -- 116
                  refine hI_il2 (k := 7) rfl e39_7 rfl ?_ -- 117
                  refine HJ.call (j := 65) (as := [.ref nd, .int lx3, .int x2]) (rr := []) (pc' := 122) (m_cR (kc := 2) rfl rfl (by decide +kernel) rfl rfl rfl ⟨rfl, by decide +kernel, by decide +kernel⟩ (by decide) hs1 (by rw [M41.2.1]; exact hk0)) (by show 3 ≤ m_lc 65; decide +kernel) ?_ -- 119
                  exact g5 x2 q2 h41 H41 f41 lv39 M41 e39_0 e39_1 e39_2 e39_3 e39_4 c9 c27 c33 c70
        · exfalso; omega
      · refine hI_al (k := 1) rfl e5_1 rfl ?_ -- 36
        refine hI_il2 (k := 4) rfl e5_4 rfl ?_ -- 37
        refine hI_il (k := 3) rfl e5_3 rfl ?_ -- 39
        refine hR_is M hs0 ha0 lq4 lq3 (by omega) (by omega) rfl rfl (fun h42 H42 f42 M42 => ?_) -- 40
        refine hI_al (k := 0) rfl e5_0 rfl ?_ -- 41
        refine hI_il2 (k := 5) rfl e5_5 rfl ?_ -- 42
        refine hI_il2 (k := 6) rfl e5_6 rfl ?_ -- 44
        refine HJ.call (j := 65) (as := [.ref nd, .int x2, .int x4]) (rr := []) (pc' := 49) (m_cR (kc := 2) rfl rfl (by decide +kernel) rfl rfl rfl ⟨rfl, by decide +kernel, by decide +kernel⟩ (by decide) hs1 (by rw [M42.2.1]; exact hk0)) (by show 3 ≤ m_lc 65; decide +kernel) ?_ -- 46
        exact g6 x2 q2 x4 q4 h42 H42 f42 lv5 M42 e5_0 e5_1 e5_2 e5_3 e5_4 c9 c27 c33
theorem r_me49 {nd hp ot : Nat} {c r n : Int} (M : RX h0 h H) (e0 : m_lk lv 0 = some (.ref nd)) (e1 : m_lk lv 1 = some (.ref hp)) (e2 : m_lk lv 2 = some (.ref ot)) {lx3 : Int32} (e3 : m_lk lv 3 = some (.int lx3)) (lq3 : lx3.toInt = c) {lx4 : Int32} (e4 : m_lk lv 4 = some (.int lx4)) (lq4 : lx4.toInt = r) {sx0 : Int32} (sq0 : sx0.toInt = n) 
    (g0 : ∀ lv1 : List (Nat × Value), m_lk lv1 0 = some (.ref nd) → m_lk lv1 1 = some (.ref hp) → m_lk lv1 2 = some (.ref ot) → m_lk lv1 3 = some (.int sx0) → m_lk lv1 4 = some (.int lx4) → HJ 64 127 lv1 [] h Q)
    : HJ 64 49 lv [.int sx0] h Q := by
  refine hM_si (k := 3) rfl (by decide +kernel) rfl (fun lv1 e1_3 u1 => ?_) -- 49
  have e1_0 := u1 0 _ (by decide) (Or.inl rfl) e0
  have e1_1 := u1 1 _ (by decide) (Or.inl rfl) e1
  have e1_2 := u1 2 _ (by decide) (Or.inl rfl) e2
  have e1_4 := u1 4 _ (by decide) (Or.inl rfl) e4
  refine hI_go (pc' := 127) (off := 77) rfl (by decide) ?_ -- 50
  exact g0 lv1 e1_0 e1_1 e1_2 e1_3 e1_4
theorem r_me122 {nd hp ot : Nat} {c r n : Int} (M : RX h0 h H) (e0 : m_lk lv 0 = some (.ref nd)) (e1 : m_lk lv 1 = some (.ref hp)) (e2 : m_lk lv 2 = some (.ref ot)) {lx3 : Int32} (e3 : m_lk lv 3 = some (.int lx3)) (lq3 : lx3.toInt = c) {lx4 : Int32} (e4 : m_lk lv 4 = some (.int lx4)) (lq4 : lx4.toInt = r) {sx0 : Int32} (sq0 : sx0.toInt = n) 
    (g0 : ∀ lv1 : List (Nat × Value), m_lk lv1 0 = some (.ref nd) → m_lk lv1 1 = some (.ref hp) → m_lk lv1 2 = some (.ref ot) → m_lk lv1 3 = some (.int sx0) → m_lk lv1 4 = some (.int lx4) → HJ 64 127 lv1 [] h Q)
    : HJ 64 122 lv [.int sx0] h Q := by
  refine hI_go (pc' := 126) (off := 4) rfl (by decide) ?_ -- 122
  refine hM_si (k := 3) rfl (by decide +kernel) rfl (fun lv1 e1_3 u1 => ?_) -- 126
  have e1_0 := u1 0 _ (by decide) (Or.inl rfl) e0
  have e1_1 := u1 1 _ (by decide) (Or.inl rfl) e1
  have e1_2 := u1 2 _ (by decide) (Or.inl rfl) e2
  have e1_4 := u1 4 _ (by decide) (Or.inl rfl) e4
  exact g0 lv1 e1_0 e1_1 e1_2 e1_3 e1_4
theorem r_me127 {nd hp ot : Nat} {c r : Int} (M : RX h0 h H) (e0 : m_lk lv 0 = some (.ref nd)) (e1 : m_lk lv 1 = some (.ref hp)) (e2 : m_lk lv 2 = some (.ref ot)) {lx3 : Int32} (e3 : m_lk lv 3 = some (.int lx3)) (lq3 : lx3.toInt = c) {lx4 : Int32} (e4 : m_lk lv 4 = some (.int lx4)) (lq4 : lx4.toInt = r) (r0 : 0 ≤ r) (r1 : r ≤ 5)
    (g0 : ∀ x1 : Int32, x1.toInt = r + 1 → ∀ lv1 : List (Nat × Value), m_lk lv1 0 = some (.ref nd) → m_lk lv1 1 = some (.ref hp) → m_lk lv1 2 = some (.ref ot) → m_lk lv1 3 = some (.int lx3) → m_lk lv1 4 = some (.int x1) → HJ 64 5 lv1 [] h Q)
    : HJ 64 127 lv [] h Q := by
  refine hM_inc (k := 4) (z := 1) rfl e4 lq4 (by decide) (by omega) (by omega) (by decide +kernel) rfl (fun lv1 x1 q1 e1_4 u1 => ?_) -- 127
  have e1_0 := u1 0 _ (by decide) (Or.inl rfl) e0
  have e1_1 := u1 1 _ (by decide) (Or.inl rfl) e1
  have e1_2 := u1 2 _ (by decide) (Or.inl rfl) e2
  have e1_3 := u1 3 _ (by decide) (Or.inl rfl) e3
  refine hI_go (pc' := 5) (off := (-125)) rfl (by decide) ?_ -- 130
  exact g0 x1 q1 lv1 e1_0 e1_1 e1_2 e1_3 e1_4
def ap_ok (h : MH) (nd hp : Nat) : Prop := hp_ok h hp ∧ hp < 16 + h_n h ∧ hp ≠ h_r h nd 0
theorem ap_FX {nd hp : Nat} {Y : Nat → Prop} {h1 : MH} (a : ap_ok h nd hp) (F : FX nd Y h h1) : ap_ok h1 nd hp := by
  obtain ⟨⟨a1, a2, a3⟩, a4, a5⟩ := a
  have e := (F.2.2 hp a4).1
  refine ⟨⟨by rw [e]; exact a1, a2, by rw [e]; exact a3⟩, by have := F.1; omega, fun z => ?_⟩
  rcases F.2.1.1 0 (by decide) with f | f
  · exact a5 (z.trans f)
  · omega
theorem ap_kp {nd hp : Nat} {Y : Nat → Prop} {h1 : MH} (ok : nl_ok h nd) (a : ap_ok h nd hp) (n : ¬ Y hp) (F : FX nd Y h h1) (j : Nat) : z_i h1 hp j = z_i h hp j := by
  obtain ⟨b1, b2, b3⟩ := nl_ap ok a.1.1 a.2.2
  exact (F.kp a.2.1 b1 b2 b3 n).2.1 j
-- a row's element set anew: what it leaves
theorem st_FX {nd hp j : Nat} {y : Int} {h1 : MH} {H1 : Nat → Nat → Int} (hn : nd ≠ hp) (M1 : RX h h1 H1) (e : H1 = m_u (fun a j => (h_i h a j).toInt) hp (m_u (fun j => (h_i h hp j).toInt) j y)) : FX nd (fun a => a = hp) h h1 := FX.ofRX M1 (by rw [e, m_uN _ _ _ _ hn]; rfl) (fun a ha q => by
  rw [e, m_uN _ _ _ _ (fun z => ha (Or.inr (Or.inr (Or.inr z))))]
  rfl)
theorem st_cs {nd hp j : Nat} {y : Int} {S : PSt} {h1 : MH} {H1 : Nat → Nat → Int} (M1 : RX h h1 H1) (e : H1 = m_u (fun a j => (h_i h a j).toInt) hp (m_u (fun j => (h_i h hp j).toInt) j y)) (ok : nl_ok h nd) (a : ap_ok h nd hp) (I : cs_of h (z_i h) nd S) : nl_ok h1 nd ∧ cs_of h1 (z_i h1) nd S := by
  obtain ⟨b1, b2, b3⟩ := nl_ap ok a.1.1 a.2.2
  have r1 : h_r h1 nd 0 = h_r h nd 0 := by rw [M1.2.2.1.1]
  refine ⟨nl_RX ok M1 ?_, cs_mv I ?_ ?_ (fun q _ => ?_)⟩
  · rw [e, m_uN _ _ _ _ (Ne.symm b1)]
    rfl
  · rw [M1.zi, e, m_uN _ _ _ _ (Ne.symm b1)]
    rfl
  · rw [M1.zi, e, m_uN _ _ _ _ (Ne.symm b1)]
    rfl
  · rw [r1, M1.zi, e, m_uN _ _ _ _ (Ne.symm b2)]
    rfl
theorem st_hp {hp j : Nat} {y : Int} {f : Nat → Int} {h1 : MH} {H1 : Nat → Nat → Int} (M1 : RX h h1 H1) (e : H1 = m_u (fun a j => (h_i h a j).toInt) hp (m_u (fun j => (h_i h hp j).toInt) j y)) (p : hp6 (z_i h hp) f) : hp6 (z_i h1 hp) (m_u f j y) := fun q hq => by
  rw [M1.zi, e, m_uE]
  by_cases c : q = j
  · rw [c, m_uE, m_uE]
  · rw [m_uN _ _ _ _ c, m_uN _ _ _ _ c]
    exact p q hq
theorem l_meR {nd hp ot : Nat} {S : PSt} {f s : Nat → Int} (ok0 : nl_ok h0 nd) (ho : ap_ok h0 nd hp) (oo : ap_ok h0 nd ot) (d3 : ot ≠ hp) (es : hp6 (z_i h0 ot) s) (sh : ps_sh S) (hf : hp_in S f) (hs : hp_in S s) (w : p_ws f 6 + p_ws s 6 ≤ 63) (cap : ps_n S + 6 ≤ 16000) (g : ∀ h' : MH, nl_ok h' nd → cs_of h' (z_i h') nd (pm_run s (S, f, -1) 6).1 → hp6 (z_i h' hp) (pm_run s (S, f, -1) 6).2.1 → FX nd (fun a => a = hp) h0 h' → Q none h') : ∀ (e r : Nat) (lv : List (Nat × Value)) (h : MH) (xc xr : Int32), r + e = 6 → nl_ok h nd → cs_of h (z_i h) nd (pm_run s (S, f, -1) r).1 → hp6 (z_i h hp) (pm_run s (S, f, -1) r).2.1 → xc.toInt = (pm_run s (S, f, -1) r).2.2 → FX nd (fun a => a = hp) h0 h → xr.toInt = (r : Int) → m_lk lv 0 = some (.ref nd) → m_lk lv 1 = some (.ref hp) → m_lk lv 2 = some (.ref ot) → m_lk lv 3 = some (.int xc) → m_lk lv 4 = some (.int xr) → HJ 64 5 lv [] h Q := by
  intro e
  induction e with
  | zero =>
    intro r lv h xc xr he ok I p qc F qr e0 e1 e2 e3 e4
    have r6 : r = 6 := by omega
    subst r6
    have ho' := (ap_FX ho F).1
    have oo' := (ap_FX oo F).1
    refine r_me5 (RX.start h) e0 e1 e2 e3 qc e4 qr (by omega) ho'.1 ho'.2.2 oo'.1 oo'.2.2 ho'.2.1 ok.1.2.1 ok.1.1 (fun _ => g h ok I p F) ?_ ?_ ?_ ?_ ?_ ?_ <;> intros <;> exfalso <;> omega
  | succ e ih =>
    intro r lv h xc xr he ok I p qc F qr e0 e1 e2 e3 e4
    have ho' := ap_FX ho F
    have oo' := ap_FX oo F
    have J := pm_runI sh hf hs w r (by omega)
    have J' := pm_runI sh hf hs w (r + 1) (by omega)
    have rN : (r : Int).toNat = r := Int.toNat_natCast r
    have er : pm_run s (S, f, -1) (r + 1) = pm_st s (pm_run s (S, f, -1) r) r := rfl
    have ef : (pm_run s (S, f, -1) r).2.1 r = f r := J.2.2.1 r (Nat.le_refl _)
    have pf := pm_If J (by omega)
    have pq := pm_Is J hs (by omega)
    have pc := J.1.2.2
    have nX := J.2.1.2
    have r4 := pm_r4 J (by omega) w
    have xf : (h_i h hp r).toInt = f r := (p r (by omega)).trans ef
    have xs : (h_i h ot r).toInt = s r := (ap_kp ok0 oo d3 F r).trans (es r (by omega))
    generalize hX : pm_run s (S, f, -1) r = X at *
    generalize hX2 : pm_run s (S, f, -1) (r + 1) = X2 at *
    have t0 : y_tg (-1) = 0 := rfl
    -- no link
    have nol : ∀ (h2 : MH) (H2 : Nat → Nat → Int) (y : Int) (x1 : Int32) (lv2 : List (Nat × Value)), H2 = m_u (fun a j => (h_i h a j).toInt) hp (m_u (fun j => (h_i h hp j).toInt) r y) → RX h h2 H2 → X2 = (X.1, m_u X.2.1 r y, -1) → x1.toInt = -1 → m_lk lv2 0 = some (.ref nd) → m_lk lv2 1 = some (.ref hp) → m_lk lv2 2 = some (.ref ot) → m_lk lv2 3 = some (.int x1) → m_lk lv2 4 = some (.int xr) → HJ 64 127 lv2 [] h2 Q := fun h2 H2 y x1 lv2 f2 M2 eX q1 a0 a1 a2 a3 a4 => by
      refine r_me127 M2 a0 a1 a2 a3 q1 a4 qr (by omega) (by omega) (fun x3 q3 lv3 b0 b1 b2 b3 b4 => ?_)
      obtain ⟨ok2, I2⟩ := st_cs M2 f2 ok ho' I
      refine ih (r + 1) lv3 h2 x1 x3 (by omega) ok2 ?_ ?_ ?_ (F.trans (st_FX (Ne.symm (nl_ap ok ho'.1.1 ho'.2.2).1) M2 f2)) (by omega) b0 b1 b2 b3 b4
      · rw [hX2, eX]
        exact I2
      · rw [hX2, eX]
        exact st_hp M2 f2 p
      · rw [hX2, eX]
        exact q1
    -- a link
    have lnk : ∀ (pc : Nat) (_ : pc = 49 ∨ pc = 122) (h2 : MH) (H2 : Nat → Nat → Int) (y a b : Int) (xa xb : Int32) (lv2 : List (Nat × Value)), H2 = m_u (fun a j => (h_i h a j).toInt) hp (m_u (fun j => (h_i h hp j).toInt) r y) → RX h h2 H2 → X2 = (ps_link X.1 a b, m_u X.2.1 r y, (ps_n X.1 : Int)) → xa.toInt = a → xb.toInt = b → (0 ≤ a ∧ a < (ps_n X.1 : Int) ∧ ps_k X.1 a.toNat = (r : Int)) → (0 ≤ b ∧ b < (ps_n X.1 : Int) ∧ ps_k X.1 b.toNat = (r : Int)) → r ≤ 4 → m_lk lv2 0 = some (.ref nd) → m_lk lv2 1 = some (.ref hp) → m_lk lv2 2 = some (.ref ot) → m_lk lv2 3 = some (.int xc) → m_lk lv2 4 = some (.int xr) → HJ 65 0 (lv_args 0 [.ref nd, .int xa, .int xb]) [] h2 (fun v h' => HJ 64 pc lv2 (v.toList ++ []) h' Q) := fun pc hpc h2 H2 y a b xa xb lv2 f2 M2 eX qa qb na nb r4 a0 a1 a2 a3 a4 => by
      obtain ⟨ok2, I2⟩ := st_cs M2 f2 ok ho' I
      refine k_link ok2 I2 (by omega) qa qb na.1 na.2.1 nb.1 nb.2.1 (by omega) (by omega) (fun xn h3 qn ok3 I3 F3 => ?_)
      have F2 : FX nd (fun a => a = hp) h h2 := st_FX (Ne.symm (nl_ap ok ho'.1.1 ho'.2.2).1) M2 f2
      have F3' : FX nd (fun a => a = hp) h2 h3 := F3.mono (fun _ z => z.elim)
      have go : ∀ lv3 : List (Nat × Value), m_lk lv3 0 = some (.ref nd) → m_lk lv3 1 = some (.ref hp) → m_lk lv3 2 = some (.ref ot) → m_lk lv3 3 = some (.int xn) → m_lk lv3 4 = some (.int xr) → HJ 64 127 lv3 [] h3 Q := fun lv3 b0 b1 b2 b3 b4 => by
        refine r_me127 (RX.start h3) b0 b1 b2 b3 qn b4 qr (by omega) (by omega) (fun x3 q3 lv4 c0 c1 c2 c3 c4 => ?_)
        refine ih (r + 1) lv4 h3 xn x3 (by omega) ok3 ?_ ?_ ?_ ((F.trans F2).trans F3') (by omega) c0 c1 c2 c3 c4
        · rw [hX2, eX]
          exact I3
        · rw [hX2, eX]
          intro q hq
          rw [ap_kp ok2 (ap_FX ho' F2) (fun z => z) F3 q]
          exact st_hp M2 f2 p q hq
        · rw [hX2, eX]
          exact qn
      rcases hpc with z | z
      · subst z
        exact r_me49 (RX.start h3) a0 a1 a2 a3 qc a4 qr qn (fun lv3 b0 b1 b2 b3 b4 => go lv3 b0 b1 b2 b3 b4)
      · subst z
        exact r_me122 (RX.start h3) a0 a1 a2 a3 qc a4 qr qn (fun lv3 b0 b1 b2 b3 b4 => go lv3 b0 b1 b2 b3 b4)
    refine r_me5 (RX.start h) e0 e1 e2 e3 qc e4 qr (by omega) ho'.1.1 ho'.1.2.2 oo'.1.1 oo'.1.2.2 ho'.1.2.1 ok.1.2.1 ok.1.1 (fun c => absurd c (by omega))
      (fun h13 H13 f13 x14 q14 lv15 M13 a0 a1 a2 a3 a4 _ c27 c68 => ?_)
      (fun h13 H13 f13 x14 q14 lv15 M13 a0 a1 a2 a3 a4 _ c27 c68 c75 => ?_)
      (fun x4 q4 h26 H26 f26 lv24 M26 a0 a1 a2 a3 a4 _ c27 c68 c75 => ?_)
      (fun h13 H13 f13 x14 q14 lv15 M13 a0 a1 a2 a3 a4 _ c27 c33 c68 => ?_)
      (fun x2 q2 h41 H41 f41 lv39 M41 a0 a1 a2 a3 a4 _ c27 c33 c68 => ?_)
      (fun x2 q2 x4 q4 h42 H42 f42 lv5 M42 a0 a1 a2 a3 a4 _ c27 c33 => ?_)
    · rw [rN, xf] at c27
      rw [rN, xs] at f13
      refine nol h13 H13 (s r) x14 lv15 f13 M13 ?_ q14 a0 a1 a2 a3 a4
      rw [er]
      exact pm_st3 (a := f r) (b := s r) (c := X.2.2) (o := s r) ef rfl rfl (fun z => z.1 c27) (pm_oneT c27) (fun z => z.1 c68) (pm_oneT c68)
    · rw [rN, xf] at c27
      rw [rN, xs] at c75
      rw [rN] at f13
      refine nol h13 H13 X.2.2 x14 lv15 f13 M13 ?_ q14 a0 a1 a2 a3 a4
      rw [er]
      exact pm_st3 (a := f r) (b := s r) (c := X.2.2) (o := s r) ef rfl rfl (fun z => z.1 c27) (pm_oneT c27) (fun z => z.2 c75) (pm_oneF c68)
    · rw [rN, xf] at c27
      rw [rN, xs] at c75 q4
      rw [rN] at f26
      have t1 := y_tg1 c68
      have t2 := y_tg1 c75
      refine lnk 122 (Or.inr rfl) h26 H26 (-1) X.2.2 (s r) xc x4 lv24 f26 M26 ?_ qc q4 (pc.resolve_left c68) (pq.resolve_left c75) (r4 (by omega)) a0 a1 a2 a3 a4
      rw [er]
      exact pm_st2 (a := f r) (b := s r) (c := X.2.2) (o := s r) ef rfl rfl (fun z => z.1 c27) c68 (pm_oneT c27) c75
    · rw [rN, xf] at c27 f13
      rw [rN, xs] at c33
      refine nol h13 H13 (f r) x14 lv15 f13 M13 ?_ q14 a0 a1 a2 a3 a4
      rw [er]
      exact pm_st3 (a := f r) (b := s r) (c := X.2.2) (o := f r) ef rfl rfl (fun z => z.2 c33) (pm_oneF c27) (fun z => z.1 c68) (pm_oneT c68)
    · rw [rN, xf] at c27 q2
      rw [rN, xs] at c33
      rw [rN] at f41
      have t1 := y_tg1 c68
      have t2 := y_tg1 c27
      refine lnk 122 (Or.inr rfl) h41 H41 (-1) X.2.2 (f r) xc x2 lv39 f41 M41 ?_ qc q2 (pc.resolve_left c68) (pf.resolve_left c27) (r4 (by omega)) a0 a1 a2 a3 a4
      rw [er]
      exact pm_st2 (a := f r) (b := s r) (c := X.2.2) (o := f r) ef rfl rfl (fun z => z.2 c33) c68 (pm_oneF c27) c27
    · rw [rN, xf] at c27 q2
      rw [rN, xs] at c33 q4
      rw [rN] at f42
      have t1 := y_tg1 c33
      have t2 := y_tg1 c27
      refine lnk 49 (Or.inl rfl) h42 H42 X.2.2 (f r) (s r) x2 x4 lv5 f42 M42 ?_ q2 q4 (pf.resolve_left c27) (pq.resolve_left c33) (r4 (by omega)) a0 a1 a2 a3 a4
      rw [er]
      exact pm_st1 (a := f r) (b := s r) (y := X.2.2) ef rfl rfl c27 c33
theorem k_meld {nd hp ot : Nat} {S : PSt} {f s : Nat → Int} (ok : nl_ok h nd) (ho : ap_ok h nd hp) (oo : ap_ok h nd ot) (d3 : ot ≠ hp) (I : cs_of h (z_i h) nd S) (ef : hp6 (z_i h hp) f) (es : hp6 (z_i h ot) s) (sh : ps_sh S) (hf : hp_in S f) (hs : hp_in S s) (w : p_ws f 6 + p_ws s 6 ≤ 63) (cap : ps_n S + 6 ≤ 16000) (g : ∀ h' : MH, nl_ok h' nd → cs_of h' (z_i h') nd (pm_md S f s).1 → hp6 (z_i h' hp) (pm_md S f s).2 → FX nd (fun a => a = hp) h h' → Q none h') : HJ 64 0 (lv_args 0 [.ref nd, .ref hp, .ref ot]) [] h Q := by
  refine r_me0 (RX.start h) rfl rfl rfl (fun x1 q1 x3 q3 lv4 e0 e1 e2 e3 e4 => ?_)
  exact l_meR ok ho oo d3 es sh hf hs w cap g 6 0 lv4 h x1 x3 rfl ok I ef q1 FX.same q3 e0 e1 e2 e3 e4
end
end
section
-- WEIGHTS TAKEN APART
section
variable {i pc pc' : Nat} {lv : List (Nat × Value)} {st : List Value} {h : MH} {Q : Option Value → MH → Prop}
theorem hM_divx {x y : Int32} {zx zy : Int} (a : m_at i pc = some (.idiv, 1)) (hx : x.toInt = zx) (hy : y.toInt = zy) (b0 : 0 ≤ zx) (b1 : 0 < zy) (hp : pc + 1 = pc') (g : ∀ w : Int32, w.toInt = zx / zy → HJ i pc' lv (.int w :: st) h Q) : HJ i pc lv (.int y :: .int x :: st) h Q := by
  subst hp hx hy
  have yn : ¬ y = 0 := fun z => by
    rw [z] at b1
    exact absurd b1 (by decide)
  have e := i_div x y b0 b1
  exact HJ.ex a (Or.inl rfl) (by show (if y = 0 then none else _) = _; rw [if_neg yn]; rfl) (g (x / y) e)
theorem hM_remx {x y : Int32} {zx zy : Int} (a : m_at i pc = some (.irem, 1)) (hx : x.toInt = zx) (hy : y.toInt = zy) (b0 : 0 ≤ zx) (b1 : 0 < zy) (hp : pc + 1 = pc') (g : ∀ w : Int32, w.toInt = zx % zy → HJ i pc' lv (.int w :: st) h Q) : HJ i pc lv (.int y :: .int x :: st) h Q := by
  subst hp hx hy
  have yn : ¬ y = 0 := fun z => by
    rw [z] at b1
    exact absurd b1 (by decide)
  have xT : -2147483648 ≤ x.toInt ∧ x.toInt ≤ 2147483647 := g_iT x
  have e := i_div x y b0 b1
  have d0 : 0 ≤ x.toInt / y.toInt := Int.ediv_nonneg b0 (by omega)
  have d1 := Int.emod_nonneg x.toInt (show y.toInt ≠ 0 by omega)
  have d2 := Int.emod_lt_of_pos x.toInt b1
  have d3 := Int.mul_ediv_add_emod x.toInt y.toInt
  have e2 : (x / y * y).toInt = y.toInt * (x.toInt / y.toInt) := by
    rw [i_mul _ _ (by rw [e, Int.mul_comm]; have := Int.mul_nonneg (show 0 ≤ y.toInt by omega) d0; omega) (by rw [e, Int.mul_comm]; omega), e, Int.mul_comm]
  have d4 : 0 ≤ y.toInt * (x.toInt / y.toInt) := Int.mul_nonneg (by omega) d0
  have e3 : (x - x / y * y).toInt = x.toInt % y.toInt := by
    rw [i_sub _ _ (by rw [e2]; omega) (by rw [e2]; omega), e2]
    omega
  exact HJ.ex a (Or.inl rfl) (by show (if y = 0 then none else _) = _; rw [if_neg yn]; rfl) (g _ e3)
end
section
variable {lv : List (Nat × Value)} {Q : Option Value → MH → Prop} {h0 h : MH} {H : Nat → Nat → Int}
theorem k_thIn {x : Int32} {y t : Int} (q : x.toInt = 128 * y + t) (t0 : 0 ≤ t) (t1 : t ≤ 127) (y0 : 0 ≤ y) (g : ∀ w : Int32, w.toInt = t → Q (some (.int w)) h) : HJ 77 0 (lv_args 0 [.int x]) [] h Q := by
  refine hI_il (k := 0) (x := x) rfl rfl rfl ?_
  refine hM_sp (n := 128) rfl (by decide) rfl (fun x1 q1 => ?_)
  refine hM_remx rfl q q1 (by omega) (by omega) rfl (fun w qw => ?_)
  exact hI_ri rfl rfl (g w (by omega))
theorem k_keyIn {x : Int32} {y t : Int} (q : x.toInt = 128 * y + t) (t0 : 0 ≤ t) (t1 : t ≤ 127) (y0 : 0 ≤ y) (g : ∀ w : Int32, w.toInt = y → Q (some (.int w)) h) : HJ 78 0 (lv_args 0 [.int x]) [] h Q := by
  refine hI_il (k := 0) (x := x) rfl rfl rfl ?_
  refine hM_sp (n := 128) rfl (by decide) rfl (fun x1 q1 => ?_)
  refine hM_divx rfl q q1 (by omega) (by omega) rfl (fun w qw => ?_)
  exact hI_ri rfl rfl (g w (by omega))
theorem k_weigh {xt xy : Int32} {y t : Int} (qt : xt.toInt = t) (qy : xy.toInt = y) (t0 : 0 ≤ t) (t1 : t ≤ 127) (y0 : 0 ≤ y) (y1 : y ≤ 99) (g : ∀ w : Int32, w.toInt = 128 * y + t → Q (some (.int w)) h) : HJ 60 0 (lv_args 0 [.int xt, .int xy]) [] h Q := by
  refine hI_il (k := 1) (x := xy) rfl rfl rfl ?_
  refine hM_sp (n := 128) rfl (by decide) rfl (fun x1 q1 => ?_)
  refine hM_mul rfl qy q1 (by omega) (by omega) rfl (fun x2 q2 => ?_)
  refine hI_il (k := 0) (x := xt) rfl rfl rfl ?_
  refine hM_add rfl q2 qt (by omega) (by omega) rfl (fun x3 q3 => ?_)
  exact hI_ri rfl rfl (g x3 (by omega))
end
-- THE LEAST ONE TAKEN
theorem pm_leL {S : PSt} {f : Nat → Int} : ∀ r, g_lst f r (pm_le S f r)
  | 0 => Or.inl ⟨rfl, fun k hk => absurd hk (by omega)⟩
  | r + 1 => by
    rw [pm_le]
    by_cases c : f r ≠ -1 ∧ (pm_le S f r = -1 ∨ ps_ls S (f r) (f (pm_le S f r).toNat))
    · rw [if_pos c]
      exact Or.inr ⟨by omega, by omega, by rw [Int.toNat_natCast]; exact c.1⟩
    · rw [if_neg c]
      rcases pm_leL (S := S) (f := f) r with ⟨z1, z2⟩ | ⟨z1, z2, z3⟩
      · refine Or.inl ⟨z1, fun k hk => ?_⟩
        by_cases e : k = r
        · subst e
          by_cases q : f k = -1
          · exact q
          · exact absurd ⟨q, Or.inl z1⟩ c
        · exact z2 k (by omega)
      · exact Or.inr ⟨z1, by omega, z3⟩
def pm_lo (S : PSt) (f : Nat → Int) : Nat → Int := fun i => if (i : Int) < pm_le S f 6 then ps_b S (6 * (f (pm_le S f 6).toNat).toNat + i) else -1
theorem pm_tk0 {S : PSt} {f : Nat → Int} (e : pm_le S f 6 = -1) : pm_tk (S, f) = (S, f) := if_pos e
theorem pm_tk1 {S : PSt} {f : Nat → Int} (e : pm_le S f 6 ≠ -1) : pm_tk (S, f) = pm_md S (m_u f (pm_le S f 6).toNat (-1)) (pm_lo S f) := if_neg e
theorem pm_loI {S : PSt} {f : Nat → Int} (sh : ps_sh S) (hf : hp_in S f) (w : p_ws f 6 ≤ 63) (e : pm_le S f 6 ≠ -1) : hp_in S (pm_lo S f) ∧ hp_in S (m_u f (pm_le S f 6).toNat (-1)) ∧ p_ws (m_u f (pm_le S f 6).toNat (-1)) 6 + p_ws (pm_lo S f) 6 + 1 = p_ws f 6 := by
  obtain ⟨l0, l1, l2⟩ := (pm_leL (S := S) (f := f) 6).resolve_left (fun z => e z.1)
  have l1 : pm_le S f 6 < 6 := by omega
  obtain ⟨r0, r1, r2⟩ := (hf _ (by omega)).resolve_left l2
  have kr : ps_k S (f (pm_le S f 6).toNat).toNat = pm_le S f 6 := by rw [r2]; omega
  have ch := (sh (f (pm_le S f 6).toNat).toNat (by omega)).2
  have ne : ∀ k : Nat, k < (pm_le S f 6).toNat → pm_lo S f k = ps_b S (6 * (f (pm_le S f 6).toNat).toNat + k) := fun k hk => if_pos (by omega)
  refine ⟨fun q hq => ?_, pm_hp hf (Or.inl rfl), ?_⟩
  · by_cases c : (q : Int) < pm_le S f 6
    · rw [ne q (by omega)]
      exact Or.inr (ch q (by rw [kr]; exact c))
    · exact Or.inl (if_neg c)
  · have a := p_wsG l2 (r := 6) (by omega)
    have b := p_ws0 (f := pm_lo S f) (q := (pm_le S f 6).toNat) (r := 6) (by omega) (fun k h1 _ => if_neg (by omega))
    have c := p_ws1 (f := pm_lo S f) (r := (pm_le S f 6).toNat) (fun k hk => by
      rw [ne k hk]
      have := (ch k (by rw [kr]; omega)).1
      omega)
    omega
theorem pm_tkI {S : PSt} {f : Nat → Int} (sh : ps_sh S) (hf : hp_in S f) (w : p_ws f 6 ≤ 63) (e : pm_le S f 6 ≠ -1) : ps_sh (pm_tk (S, f)).1 ∧ hp_in (pm_tk (S, f)).1 (pm_tk (S, f)).2 ∧ ps_ex S (pm_tk (S, f)).1 ∧ ps_n (pm_tk (S, f)).1 ≤ ps_n S + 6 ∧ p_ws (pm_tk (S, f)).2 6 + 1 = p_ws f 6 := by
  obtain ⟨a, b, c⟩ := pm_loI sh hf w e
  rw [pm_tk1 e]
  obtain ⟨m1, m2, m3, m4, m5⟩ := pm_mdI sh b a (by omega)
  exact ⟨m1, m2, m3, m4, by omega⟩
section
variable {lv : List (Nat × Value)} {Q : Option Value → MH → Prop} {h0 h : MH} {H : Nat → Nat → Int}
theorem r_tl0 {nd hp : Nat} (M : RX h0 h H) (e0 : m_lk lv 0 = some (.ref nd)) (e1 : m_lk lv 1 = some (.ref hp))  (hs0 : 16 ≤ nd) (hk0 : (h_k h0 nd).1 = 3)
    (g0 : HJ 72 0 (lv_args 0 [.ref nd, .ref hp]) [] h (fun v h' => HJ 71 5 lv (v.toList ++ []) h' Q))
    : HJ 71 0 lv [] h Q := by
  refine hI_al (k := 0) rfl e0 rfl ?_ -- 0
  refine hI_al (k := 1) rfl e1 rfl ?_ -- 1
  refine HJ.call (j := 72) (as := [.ref nd, .ref hp]) (rr := []) (pc' := 5) (m_cR (kc := 2) rfl rfl (by decide +kernel) rfl rfl rfl ⟨rfl, by decide +kernel, by decide +kernel⟩ (by decide) hs0 (by rw [M.2.1]; exact hk0)) (by show 2 ≤ m_lc 72; decide +kernel) ?_ -- 2
  exact g0 
theorem r_tl5 {nd hp : Nat} {k : Int} (M : RX h0 h H) (e0 : m_lk lv 0 = some (.ref nd)) (e1 : m_lk lv 1 = some (.ref hp)) {sx0 : Int32} (sq0 : sx0.toInt = k) (k0 : -1 ≤ k) (k1 : k ≤ 5) (ha0 : (h_k h0 hp).1 = 20) (hl0 : 6 ≤ ((h_k h0 hp).2 : Int)) (hs0 : 16 ≤ hp) (hk0 : (h_k h0 nd).1 = 3)
    (g0 : ∀ x3 : Int32, x3.toInt = H hp (k).toNat → ∀ h6 : MH, ∀ H6 : Nat → Nat → Int, H6 = m_u H hp (m_u (H hp) (k).toNat ((-1))) → ∀ x7 : Int32, x7.toInt = (-1) → ∀ lv4 : List (Nat × Value), RX h0 h6 H6 → m_lk lv4 0 = some (.ref nd) → m_lk lv4 1 = some (.ref hp) → m_lk lv4 2 = some (.int sx0) → m_lk lv4 3 = some (.int x3) → k ≠ (-1) → HJ 48 0 (lv_args 0 [.ref (h_r h0 nd 2), .int x7]) [] h6 (fun v h' => HJ 71 29 lv4 (v.toList ++ []) h' Q))
    (g1 : ∀ x8 : Int32, x8.toInt = 0 → ∀ lv1 : List (Nat × Value), k = (-1) → Q (some (.int x8)) h)
    : HJ 71 5 lv [.int sx0] h Q := by
  refine hM_si (k := 2) rfl (by decide +kernel) rfl (fun lv1 e1_2 u1 => ?_) -- 5
  have e1_0 := u1 0 _ (by decide) (Or.inl rfl) e0
  have e1_1 := u1 1 _ (by decide) (Or.inl rfl) e1
  refine hI_il (k := 2) rfl e1_2 rfl ?_ -- 6
  refine hM_ic (n := (-1)) rfl (by decide) rfl (fun x2 q2 => ?_) -- 7
  refine hM_cne (off := 5) (t := 13) rfl sq0 q2 (by decide) rfl (fun c8 => ?_) (fun c8 => ?_) -- 8
  · refine hI_al (k := 1) rfl e1_1 rfl ?_ -- 13
    refine hI_il (k := 2) rfl e1_2 rfl ?_ -- 14
    refine hR_ia M ha0 sq0 (by omega) (by omega) rfl rfl (fun x3 q3 => ?_) -- 15
    have gb3 : -2147483648 ≤ H hp (k).toNat ∧ H hp (k).toNat ≤ 2147483647 := by rw [← q3]; exact g_iT _
    refine hM_si (k := 3) rfl (by decide +kernel) rfl (fun lv4 e4_3 u4 => ?_) -- 16
    have e4_0 := u4 0 _ (by decide) (Or.inl rfl) e1_0
    have e4_1 := u4 1 _ (by decide) (Or.inl rfl) e1_1
    have e4_2 := u4 2 _ (by decide) (Or.inl rfl) e1_2
    refine hI_al (k := 1) rfl e4_1 rfl ?_ -- 17
    refine hI_il (k := 2) rfl e4_2 rfl ?_ -- 18
    refine hM_ic (n := (-1)) rfl (by decide) rfl (fun x5 q5 => ?_) -- 19
    refine hR_is M hs0 ha0 sq0 q5 (by omega) (by omega) rfl rfl (fun h6 H6 f6 M6 => ?_) -- 20
    refine hI_al (k := 0) rfl e4_0 rfl ?_ -- 21
    refine hR_gr (c := 2) (k := 2) M6 hk0 rfl rfl rfl rfl ?_ -- 22
    refine hM_ic (n := (-1)) rfl (by decide) rfl (fun x7 q7 => ?_) -- 25
    refine hM_is0 (as := [.ref (h_r h0 nd 2), .int x7]) (r := []) rfl rfl (by decide +kernel) rfl rfl rfl rfl rfl ?_ -- 26
    exact g0 x3 q3 h6 H6 f6 x7 q7 lv4 M6 e4_0 e4_1 e4_2 e4_3 c8
  · refine hM_ic (n := 0) rfl (by decide) rfl (fun x8 q8 => ?_) -- 11
    refine hM_rb rfl rfl q8 (by omega) (by omega) ?_ -- 12
    exact g1 x8 q8 lv1 c8
theorem r_tl29 {nd hp : Nat} {k t : Int} (M : RX h0 h H) (e0 : m_lk lv 0 = some (.ref nd)) (e1 : m_lk lv 1 = some (.ref hp)) {lx2 : Int32} (e2 : m_lk lv 2 = some (.int lx2)) (lq2 : lx2.toInt = k) {lx3 : Int32} (e3 : m_lk lv 3 = some (.int lx3)) (lq3 : lx3.toInt = t) 
    (g0 : ∀ x1 : Int32, x1.toInt = 0 → ∀ lv2 : List (Nat × Value), m_lk lv2 0 = some (.ref nd) → m_lk lv2 1 = some (.ref hp) → m_lk lv2 2 = some (.int lx2) → m_lk lv2 3 = some (.int lx3) → m_lk lv2 4 = some (.int x1) → HJ 71 32 lv2 [] h Q)
    : HJ 71 29 lv [] h Q := by
  refine hM_ic (n := 0) rfl (by decide) rfl (fun x1 q1 => ?_) -- 29
  refine hM_si2 (k := 4) rfl (by decide +kernel) rfl (fun lv2 e2_4 u2 => ?_) -- 30
  have e2_0 := u2 0 _ (by decide) (Or.inl rfl) e0
  have e2_1 := u2 1 _ (by decide) (Or.inl rfl) e1
  have e2_2 := u2 2 _ (by decide) (Or.inl rfl) e2
  have e2_3 := u2 3 _ (by decide) (Or.inl rfl) e3
  exact g0 x1 q1 lv2 e2_0 e2_1 e2_2 e2_3 e2_4
theorem r_tl32 {nd hp : Nat} {k t j : Int} (M : RX h0 h H) (e0 : m_lk lv 0 = some (.ref nd)) (e1 : m_lk lv 1 = some (.ref hp)) {lx2 : Int32} (e2 : m_lk lv 2 = some (.int lx2)) (lq2 : lx2.toInt = k) {lx3 : Int32} (e3 : m_lk lv 3 = some (.int lx3)) (lq3 : lx3.toInt = t) {lx4 : Int32} (e4 : m_lk lv 4 = some (.int lx4)) (lq4 : lx4.toInt = j) (j0 : 0 ≤ j) (k1 : k ≤ 5) (hk0 : (h_k h0 nd).1 = 3) (hs0 : 16 ≤ nd)
    (g0 : j ≥ k → HJ 64 0 (lv_args 0 [.ref nd, .ref hp, .ref (h_r h0 nd 2)]) [] h (fun v h' => HJ 71 71 lv (v.toList ++ []) h' Q))
    (g1 : ∀ x3 : Int32, x3.toInt = (k - 1) - j → j < k → HJ 69 0 (lv_args 0 [.ref nd, .int lx3, .int x3]) [] h (fun v h' => HJ 71 55 lv (v.toList ++ [.int lx4, .ref (h_r h0 nd 2)]) h' Q))
    : HJ 71 32 lv [] h Q := by
  refine hI_il2 (k := 4) rfl e4 rfl ?_ -- 32
  refine hI_il (k := 2) rfl e2 rfl ?_ -- 34
  refine hM_cge (off := 27) (t := 62) rfl lq4 lq2 (by decide) rfl (fun c35 => ?_) (fun c35 => ?_) -- 35
  · refine hI_al (k := 0) rfl e0 rfl ?_ -- 62
    refine hI_al (k := 1) rfl e1 rfl ?_ -- 63
    refine hI_al (k := 0) rfl e0 rfl ?_ -- 64
    refine hR_gr (c := 2) (k := 2) M hk0 rfl rfl rfl rfl ?_ -- 65
    refine HJ.call (j := 64) (as := [.ref nd, .ref hp, .ref (h_r h0 nd 2)]) (rr := []) (pc' := 71) (m_cR (kc := 2) rfl rfl (by decide +kernel) rfl rfl rfl ⟨rfl, by decide +kernel, by decide +kernel⟩ (by decide) hs0 (by rw [M.2.1]; exact hk0)) (by show 3 ≤ m_lc 64; decide +kernel) ?_ -- 68
    exact g0 c35
  · refine hI_al (k := 0) rfl e0 rfl ?_ -- 38
    refine hR_gr (c := 2) (k := 2) M hk0 rfl rfl rfl rfl ?_ -- 39
    refine hI_il2 (k := 4) rfl e4 rfl ?_ -- 42
    refine hI_al (k := 0) rfl e0 rfl ?_ -- 44
    refine hI_il (k := 3) rfl e3 rfl ?_ -- 45
    refine hI_il (k := 2) rfl e2 rfl ?_ -- 46
    refine hM_ic (n := 1) rfl (by decide) rfl (fun x1 q1 => ?_) -- 47
    refine hM_sub rfl lq2 q1 (by omega) (by omega) rfl (fun x2 q2 => ?_) -- 48
    refine hI_il2 (k := 4) rfl e4 rfl ?_ -- 49
    refine hM_sub rfl q2 lq4 (by omega) (by omega) rfl (fun x3 q3 => ?_) -- 51
    refine HJ.call (j := 69) (as := [.ref nd, .int lx3, .int x3]) (rr := [.int lx4, .ref (h_r h0 nd 2)]) (pc' := 55) (m_cR (kc := 2) rfl rfl (by decide +kernel) rfl rfl rfl ⟨rfl, by decide +kernel, by decide +kernel⟩ (by decide) hs0 (by rw [M.2.1]; exact hk0)) (by show 3 ≤ m_lc 69; decide +kernel) ?_ -- 52
    exact g1 x3 q3 c35
theorem r_tl55 {nd hp : Nat} {k t j p c : Int} (M : RX h0 h H) (e0 : m_lk lv 0 = some (.ref nd)) (e1 : m_lk lv 1 = some (.ref hp)) {lx2 : Int32} (e2 : m_lk lv 2 = some (.int lx2)) (lq2 : lx2.toInt = k) {lx3 : Int32} (e3 : m_lk lv 3 = some (.int lx3)) (lq3 : lx3.toInt = t) {lx4 : Int32} (e4 : m_lk lv 4 = some (.int lx4)) (lq4 : lx4.toInt = j) {sx1 : Int32} (sq1 : sx1.toInt = p) {sx2 : Int32} (sq2 : sx2.toInt = c) (p0 : 0 ≤ p) (p1 : p ≤ 5) (j0 : 0 ≤ j) (j1 : j ≤ 5) (ha0 : (h_k h0 (h_r h0 nd 2)).1 = 20) (hl0 : 6 ≤ ((h_k h0 (h_r h0 nd 2)).2 : Int)) (hs0 : 16 ≤ h_r h0 nd 2)
    (g0 : ∀ h1 : MH, ∀ H1 : Nat → Nat → Int, H1 = m_u H (h_r h0 nd 2) (m_u (H (h_r h0 nd 2)) (p).toNat (c)) → ∀ x2 : Int32, x2.toInt = j + 1 → ∀ lv2 : List (Nat × Value), RX h0 h1 H1 → m_lk lv2 0 = some (.ref nd) → m_lk lv2 1 = some (.ref hp) → m_lk lv2 2 = some (.int lx2) → m_lk lv2 3 = some (.int lx3) → m_lk lv2 4 = some (.int x2) → HJ 71 32 lv2 [] h1 Q)
    : HJ 71 55 lv [.int sx2, .int sx1, .ref (h_r h0 nd 2)] h Q := by
  refine hR_is M hs0 ha0 sq1 sq2 (by omega) (by omega) rfl rfl (fun h1 H1 f1 M1 => ?_) -- 55
  refine hM_inc (k := 4) (z := 1) rfl e4 lq4 (by decide) (by omega) (by omega) (by decide +kernel) rfl (fun lv2 x2 q2 e2_4 u2 => ?_) -- 56
  have e2_0 := u2 0 _ (by decide) (Or.inl rfl) e0
  have e2_1 := u2 1 _ (by decide) (Or.inl rfl) e1
  have e2_2 := u2 2 _ (by decide) (Or.inl rfl) e2
  have e2_3 := u2 3 _ (by decide) (Or.inl rfl) e3
  refine hI_go (pc' := 32) (off := (-27)) rfl (by decide) ?_ -- 59
  exact g0 h1 H1 f1 x2 q2 lv2 M1 e2_0 e2_1 e2_2 e2_3 e2_4
theorem r_tl71 (M : RX h0 h H)  
    (g0 : ∀ x1 : Int32, x1.toInt = 1 → Q (some (.int x1)) h)
    : HJ 71 71 lv [] h Q := by
  refine hM_ic (n := 1) rfl (by decide) rfl (fun x1 q1 => ?_) -- 71
  refine hM_rb rfl rfl q1 (by omega) (by omega) ?_ -- 72
  exact g0 x1 q1
theorem l_tlC {nd hp : Nat} {S : PSt} {k t : Nat} {xk xt : Int32} (ok : nl_ok h0 nd) (lo : ap_ok h0 nd (h_r h0 nd 2)) (ho : ap_ok h0 nd hp) (dl : h_r h0 nd 2 ≠ hp) (I : cs_of h0 (z_i h0) nd S) (k5 : k ≤ 5) (tn : t < ps_n S) (kt : ps_k S t = (k : Int)) (qk : xk.toInt = (k : Int)) (qt : xt.toInt = (t : Int)) (g : ∀ (lv : List (Nat × Value)) (h' : MH) (H' : Nat → Nat → Int), RX h0 h' H' → (∀ a, a ≠ h_r h0 nd 2 → a ≠ hp → H' a = z_i h0 a) → H' hp = m_u (z_i h0 hp) k (-1) → (∀ q : Nat, q < 6 → H' (h_r h0 nd 2) q = if (q : Int) < (k : Int) then ps_b S (6 * t + q) else -1) → HJ 64 0 (lv_args 0 [.ref nd, .ref hp, .ref (h_r h0 nd 2)]) [] h' (fun v h' => HJ 71 71 lv (v.toList ++ []) h' Q)) : ∀ (e j : Nat) (lv : List (Nat × Value)) (h : MH) (H : Nat → Nat → Int) (xj : Int32), j + e = k → xj.toInt = (j : Int) → RX h0 h H → (∀ a, a ≠ h_r h0 nd 2 → a ≠ hp → H a = z_i h0 a) → H hp = m_u (z_i h0 hp) k (-1) → (∀ q : Nat, q < 6 → H (h_r h0 nd 2) q = if (q : Int) < (j : Int) then ps_b S (6 * t + q) else -1) → m_lk lv 0 = some (.ref nd) → m_lk lv 1 = some (.ref hp) → m_lk lv 2 = some (.int xk) → m_lk lv 3 = some (.int xt) → m_lk lv 4 = some (.int xj) → HJ 71 32 lv [] h Q := by
  obtain ⟨la, lb, lc⟩ := nl_ap ok lo.1.1 lo.2.2
  obtain ⟨pa, pb, pc⟩ := nl_ap ok ho.1.1 ho.2.2
  obtain ⟨i1, i2, i3, i4, i5⟩ := I
  obtain ⟨-, -, -, -, k5', kc⟩ := i5 t tn
  intro e
  induction e with
  | zero =>
    intro j lv h H xj he hj M p1 p2 p3 e0 e1 e2 e3 e4
    exact r_tl32 M e0 e1 e2 qk e3 qt e4 hj (by omega) (by omega) ok.1.1 ok.1.2.1 (fun _ => g lv h H M p1 p2 (fun q hq => by rw [p3 q hq, show j = k by omega])) (fun _ _ c => absurd c (by omega))
  | succ e ih =>
    intro j lv h H xj he hj M p1 p2 p3 e0 e1 e2 e3 e4
    refine r_tl32 M e0 e1 e2 qk e3 qt e4 hj (by omega) (by omega) ok.1.1 ok.1.2.1 (fun c => absurd c (by omega)) (fun x3 q3 _ => ?_)
    have hn : H nd = z_i h0 nd := p1 nd (Ne.symm la) (Ne.symm pa)
    have hC : H (h_r h0 nd 0) = z_i h0 (h_r h0 nd 0) := p1 _ (Ne.symm lb) (Ne.symm pb)
    have J : cs_of h0 H nd S := cs_mv (h1 := h0) ⟨i1, i2, i3, i4, i5⟩ (by rw [hn]) (by rw [hn]) (fun q _ => by rw [hC])
    refine k_ch (r := j) M (nl_nd ok i1) J qt q3 (by omega) (by omega) (by rw [Int.toNat_natCast, kt]; omega) (by rw [Int.toNat_natCast, kt]) (fun xc qc => ?_)
    rw [Int.toNat_natCast] at qc
    refine r_tl55 M e0 e1 e2 qk e3 qt e4 hj hj qc (by omega) (by omega) (by omega) (by omega) lo.1.1 lo.1.2.2 lo.1.2.1 (fun h1 H1 f1 x2 q2 lv2 M1 a0 a1 a2 a3 a4 => ?_)
    rw [Int.toNat_natCast] at f1
    refine ih (j + 1) lv2 h1 H1 x2 (by omega) (by omega) M1 (fun a ha hb => by rw [f1, m_uN _ _ _ _ ha]; exact p1 a ha hb) (by rw [f1, m_uN _ _ _ _ (Ne.symm dl)]; exact p2) (fun q hq => ?_) a0 a1 a2 a3 a4
    rw [f1, m_uE]
    by_cases z : q = j
    · rw [z, m_uE, if_pos (by omega)]
    · rw [m_uN _ _ _ _ z, p3 q hq]
      by_cases c : (q : Int) < (j : Int)
      · rw [if_pos c, if_pos (by omega)]
      · rw [if_neg c, if_neg (by omega)]
theorem k_take {nd hp : Nat} {S : PSt} {f : Nat → Int} (ok : nl_ok h nd) (ho : ap_ok h nd hp) (lo : ap_ok h nd (h_r h nd 2)) (lb : (h_k h (h_r h nd 2)).2 ≤ 1000000) (dl : h_r h nd 2 ≠ hp) (I : cs_of h (z_i h) nd S) (ef : hp6 (z_i h hp) f) (sh : ps_sh S) (hf : hp_in S f) (w : p_ws f 6 ≤ 63) (cap : ps_n S + 6 ≤ 16000) (g : ∀ (x : Int32) (h' : MH), (x.toInt = 0 ∧ pm_le S f 6 = -1) ∨ (x.toInt = 1 ∧ pm_le S f 6 ≠ -1) → nl_ok h' nd → cs_of h' (z_i h') nd (pm_tk (S, f)).1 → hp6 (z_i h' hp) (pm_tk (S, f)).2 → FX nd (fun a => a = hp ∨ a = h_r h nd 2) h h' → Q (some (.int x)) h') : HJ 71 0 (lv_args 0 [.ref nd, .ref hp]) [] h Q := by
  have M := RX.start h
  have nok := nl_nd ok I.1
  refine r_tl0 M rfl rfl ok.1.2.1 ok.1.1 (k_least M nok I ho.1 ef hf (fun xk qk => ?_))
  have L := pm_leL (S := S) (f := f) 6
  have L1 : -1 ≤ pm_le S f 6 ∧ pm_le S f 6 ≤ 5 := by
    rcases L with z | z <;> omega
  refine r_tl5 M rfl rfl qk L1.1 L1.2 ho.1.1 ho.1.2.2 ho.1.2.1 ok.1.1 (fun x3 q3 h6 H6 f6 x7 q7 lv4 M6 e0 e1 e2 e3 c => ?_) (fun x8 q8 lv1 c => g x8 h (Or.inl ⟨q8, c⟩) ok (by rw [pm_tk0 c]; exact I) (by rw [pm_tk0 c]; exact ef) FX.same)
  obtain ⟨l0, l1, l2⟩ := L.resolve_left (fun z => c z.1)
  obtain ⟨a1, a2, a3⟩ := pm_loI sh hf w c
  have q3 : x3.toInt = f (pm_le S f 6).toNat := q3.trans (ef _ (by omega))
  obtain ⟨r0, r1, r2⟩ := (hf _ (by omega)).resolve_left l2
  obtain ⟨la, lb_, lc⟩ := nl_ap ok lo.1.1 lo.2.2
  obtain ⟨pa, pb, pc⟩ := nl_ap ok ho.1.1 ho.2.2
  refine k_fill M6 lo.1.1 lo.1.2.1 lb q7 (fun h7 H7 M7 p1 p2 => ?_)
  refine r_tl29 M7 e0 e1 e2 qk e3 q3 (fun xj qj lv5 d0 d1 d2 d3 d4 => ?_)
  have lo3 := lo.1.2.2
  refine l_tlC (k := (pm_le S f 6).toNat) (t := (f (pm_le S f 6).toNat).toNat) ok lo ho dl I (by omega) (by omega) r2 (by omega) (by omega) (fun lv6 h8 H8 M8 s1 s2 s3 => ?_) (pm_le S f 6).toNat 0 lv5 h7 H7 xj (by omega) qj M7 (fun a ha hb => by rw [p1 a ha, f6, m_uN _ _ _ _ hb]; rfl) (by rw [p1 hp (Ne.symm dl), f6, m_uE]; rfl) (fun q hq => by rw [p2 q (by omega), if_neg (by omega)]) d0 d1 d2 d3 d4
  have r8 : h_r h8 = h_r h := M8.2.2.1.1
  have k8 : h_k h8 = h_k h := M8.2.1
  have n8 : h_n h8 = h_n h := by
    have := M8.1
    unfold h_n
    rw [this]
  have F8 : FX nd (fun a => a = hp ∨ a = h_r h nd 2) h h8 := FX.ofRX M8 (by rw [s1 nd (Ne.symm la) (Ne.symm pa)]) (fun a ha j => by
    rw [s1 a (fun z => ha (Or.inr (Or.inr (Or.inr (Or.inr z))))) (fun z => ha (Or.inr (Or.inr (Or.inr (Or.inl z)))))])
  have ok8 : nl_ok h8 nd := nl_RX ok M8 (by rw [s1 nd (Ne.symm la) (Ne.symm pa)])
  have I8 : cs_of h8 (z_i h8) nd S := cs_mv I (by rw [M8.zi, s1 nd (Ne.symm la) (Ne.symm pa)]) (by rw [M8.zi, s1 nd (Ne.symm la) (Ne.symm pa)]) (fun q _ => by rw [r8, M8.zi, s1 _ (Ne.symm lb_) (Ne.symm pb)])
  have eL : hp6 (z_i h8 (h_r h nd 2)) (pm_lo S f) := fun q hq => by
    rw [M8.zi, s3 q hq]
    unfold pm_lo
    rw [show ((pm_le S f 6).toNat : Int) = pm_le S f 6 by omega]
  have eH : hp6 (z_i h8 hp) (m_u f (pm_le S f 6).toNat (-1)) := fun q hq => by
    rw [M8.zi, s2]
    by_cases z : q = (pm_le S f 6).toNat
    · rw [z, m_uE, m_uE]
    · rw [m_uN _ _ _ _ z, m_uN _ _ _ _ z]
      exact ef q hq
  refine k_meld ok8 (ap_FX ho F8) (ap_FX lo F8) dl I8 eH eL sh a2 a1 (by omega) cap (fun h9 ok9 I9 e9 F9 => ?_)
  exact r_tl71 (RX.start h9) (fun x1 q1 => g x1 h9 (Or.inr ⟨q1, c⟩) ok9 (by rw [pm_tk1 c]; exact I9) (by rw [pm_tk1 c]; exact e9) (F8.trans (F9.mono (fun _ z => Or.inl z))))
end
end
section
-- A WALK, PURE: what it keeps
def wk_ok (S : PSt) (O : WKt) : Prop := ∀ i, i < O.1 → (0 ≤ O.2.1 i ∧ O.2.1 i < (ps_n S : Int)) ∧ ((O.2.2.1 i = -1 ∧ O.2.2.2 i = 0) ∨ (0 ≤ O.2.2.1 i ∧ O.2.2.1 i < (i : Int) ∧ O.2.2.2 i = O.2.2.2 (O.2.2.1 i).toNat + 1)) ∧ (0 ≤ O.2.2.2 i ∧ O.2.2.2 i + ps_k S (O.2.1 i).toNat ≤ 5)
def wq_ok (S : PSt) (O : WKt) (q : Int × Int) : Prop := (0 ≤ q.1 ∧ q.1 < (ps_n S : Int)) ∧ (q.2 = -1 ∨ (0 ≤ q.2 ∧ q.2 < (O.1 : Int) ∧ O.2.2.2 q.2.toNat + 1 + ps_k S q.1.toNat ≤ 5))
def wq_w (S : PSt) : List (Int × Int) → Nat
  | [] => 0
  | q :: l => 2 ^ (ps_k S q.1.toNat).toNat + wq_w S l
def wk_in (S : PSt) (W : Nat) (l : List (Int × Int)) (O : WKt) : Prop := wk_ok S O ∧ (∀ q ∈ l, wq_ok S O q) ∧ wq_w S l + O.1 = W
theorem wq_wL {S : PSt} : ∀ l : List (Int × Int), l.length ≤ wq_w S l
  | [] => Nat.le_refl _
  | q :: l => by
    have a := wq_wL (S := S) l
    have b : 0 < 2 ^ (ps_k S q.1.toNat).toNat := Nat.pow_pos (by decide)
    show l.length + 1 ≤ 2 ^ (ps_k S q.1.toNat).toNat + wq_w S l
    omega
theorem wq_wA {S : PSt} {l2 : List (Int × Int)} : ∀ l : List (Int × Int), wq_w S (l ++ l2) = wq_w S l + wq_w S l2
  | [] => (Nat.zero_add _).symm
  | q :: l => by
    show 2 ^ (ps_k S q.1.toNat).toNat + wq_w S (l ++ l2) = 2 ^ (ps_k S q.1.toNat).toNat + wq_w S l + wq_w S l2
    rw [wq_wA l, Nat.add_assoc]
theorem wk_chW {S : PSt} {v : Int} {w : Nat} (sh : ps_sh S) (v0 : 0 ≤ v) (v1 : v < (ps_n S : Int)) : ∀ j : Nat, (j : Int) ≤ ps_k S v.toNat → wq_w S (wk_ch S v w j) + 1 = 2 ^ j
  | 0, _ => rfl
  | j + 1, h => by
    have a := wk_chW sh v0 v1 (w := w) j (by omega)
    have b := (sh v.toNat (by omega)).2 j (by omega)
    show 2 ^ (ps_k S (ps_b S (6 * v.toNat + j)).toNat).toNat + wq_w S (wk_ch S v w j) + 1 = 2 ^ (j + 1)
    rw [b.2.2, Int.toNat_natCast, Nat.pow_succ]
    omega
theorem wk_chM {S : PSt} {v : Int} {w : Nat} : ∀ j : Nat, ∀ q ∈ wk_ch S v w j, ∃ r, r < j ∧ q = (ps_b S (6 * v.toNat + r), (w : Int))
  | 0 => fun q hq => by cases hq
  | j + 1 => fun q hq => by
    rcases List.mem_cons.mp hq with z | z
    · exact ⟨j, by omega, z⟩
    · obtain ⟨r, h1, h2⟩ := wk_chM j q z
      exact ⟨r, by omega, h2⟩
theorem wk_chL {S : PSt} {v : Int} {w : Nat} : ∀ j : Nat, (wk_ch S v w j).length = j
  | 0 => rfl
  | j + 1 => by
    show (wk_ch S v w j).length + 1 = _
    rw [wk_chL j]
theorem wk_onX {S : PSt} {W : Nat} {v u : Int} {l : List (Int × Int)} {O : WKt} (sh : ps_sh S) (I : wk_in S W ((v, u) :: l) O) : wk_in S W (wk_ch S v O.1 (ps_k S v.toNat).toNat ++ l) (wk_on v u O) := by
  obtain ⟨i1, i2, i3⟩ := I
  obtain ⟨⟨v0, v1⟩, hu⟩ := i2 (v, u) (List.mem_cons_self ..)
  have v0 : 0 ≤ v := v0
  have v1 : v < (ps_n S : Int) := v1
  have hu : u = -1 ∨ (0 ≤ u ∧ u < (O.1 : Int) ∧ O.2.2.2 u.toNat + 1 + ps_k S v.toNat ≤ 5) := hu
  have kv := sh v.toNat (by omega)
  have w1 : (wk_on v u O).1 = O.1 + 1 := rfl
  have wA : ∀ i, i ≠ O.1 → (wk_on v u O).2.1 i = O.2.1 i := fun i h => m_uN _ _ _ _ h
  have wU : ∀ i, i ≠ O.1 → (wk_on v u O).2.2.1 i = O.2.2.1 i := fun i h => m_uN _ _ _ _ h
  have wD : ∀ i, i ≠ O.1 → (wk_on v u O).2.2.2 i = O.2.2.2 i := fun i h => m_uN _ _ _ _ h
  have wA' : (wk_on v u O).2.1 O.1 = v := m_uE _ _ _
  have wU' : (wk_on v u O).2.2.1 O.1 = u := m_uE _ _ _
  have wD' : (wk_on v u O).2.2.2 O.1 = if u = -1 then 0 else O.2.2.2 u.toNat + 1 := m_uE _ _ _
  have dv : 0 ≤ (wk_on v u O).2.2.2 O.1 ∧ (wk_on v u O).2.2.2 O.1 + ps_k S v.toNat ≤ 5 := by
    rw [wD']
    rcases hu with z | ⟨z1, z2, z3⟩
    · rw [if_pos z]
      omega
    · rw [if_neg (by omega)]
      have := (i1 u.toNat (by omega)).2.2.1
      omega
  refine ⟨fun i hi => ?_, fun q hq => ?_, ?_⟩
  · rw [w1] at hi
    by_cases e : i = O.1
    · rw [e, wA', wU']
      refine ⟨⟨v0, v1⟩, ?_, dv⟩
      rcases hu with z | ⟨z1, z2, z3⟩
      · exact Or.inl ⟨z, by rw [wD', if_pos z]⟩
      · exact Or.inr ⟨z1, z2, by rw [wD', if_neg (by omega), wD _ (by omega)]⟩
    · rw [wA i e, wU i e, wD i e]
      obtain ⟨a, b, c⟩ := i1 i (by omega)
      refine ⟨a, ?_, c⟩
      rcases b with z | ⟨z1, z2, z3⟩
      · exact Or.inl z
      · exact Or.inr ⟨z1, z2, by rw [wD _ (by omega)]; exact z3⟩
  · rcases List.mem_append.mp hq with z | z
    · obtain ⟨r, r1, r2⟩ := wk_chM _ q z
      obtain ⟨b0, b1, b2⟩ := kv.2 r (by omega)
      rw [r2]
      exact ⟨⟨b0, b1⟩, Or.inr ⟨Int.natCast_nonneg _, by rw [w1]; show (O.1 : Int) < _; omega, by show (wk_on v u O).2.2.2 (O.1 : Int).toNat + 1 + ps_k S (ps_b S (6 * v.toNat + r)).toNat ≤ 5; rw [Int.toNat_natCast, b2]; omega⟩⟩
    · obtain ⟨a, b⟩ := i2 q (List.mem_cons_of_mem _ z)
      refine ⟨a, ?_⟩
      rcases b with y | ⟨y1, y2, y3⟩
      · exact Or.inl y
      · exact Or.inr ⟨y1, by rw [w1]; omega, by rw [wD _ (by omega)]; exact y3⟩
  · rw [wq_wA, w1]
    have a := wk_chW (w := O.1) sh v0 v1 (ps_k S v.toNat).toNat (by omega)
    have b : 2 ^ (ps_k S v.toNat).toNat + wq_w S l + O.1 = W := i3
    omega
theorem wk_rsW {S : PSt} {f : Nat → Int} (hf : hp_in S f) : ∀ d r : Nat, r + d ≤ 6 → (∀ q ∈ wk_rs f d r, wq_ok S wk_0 q) ∧ wq_w S (wk_rs f d r) + p_ws f r = p_ws f (r + d)
  | 0, r, _ => ⟨fun q hq => (by cases hq), Nat.zero_add _⟩
  | d + 1, r, h => by
    obtain ⟨a, b⟩ := wk_rsW hf d (r + 1) (by omega)
    have e : r + 1 + d = r + (d + 1) := by omega
    rw [e, p_ws] at b
    rw [wk_rs]
    by_cases c : f r = -1
    · rw [if_pos c]
      rw [y_tg0 c] at b
      exact ⟨a, by omega⟩
    · rw [if_neg c]
      rw [y_tg1 c] at b
      obtain ⟨f0, f1, f2⟩ := (hf r (by omega)).resolve_left c
      refine ⟨fun q hq => ?_, ?_⟩
      · rcases List.mem_cons.mp hq with z | z
        · rw [z]
          exact ⟨⟨f0, f1⟩, Or.inl rfl⟩
        · exact a q z
      · show 2 ^ (ps_k S (f r).toNat).toNat + wq_w S (wk_rs f d (r + 1)) + p_ws f r = _
        rw [f2, Int.toNat_natCast]
        omega
theorem wk_in0 {S : PSt} {f : Nat → Int} (hf : hp_in S f) : wk_in S (p_ws f 6) (wk_rs f 6 0) wk_0 := by
  obtain ⟨a, b⟩ := wk_rsW hf 6 0 (by omega)
  exact ⟨fun i hi => absurd hi (Nat.not_lt_zero i), a, b⟩
-- the walk to its end
theorem wk_goI {S : PSt} {W : Nat} (sh : ps_sh S) : ∀ (f : Nat) (l : List (Int × Int)) (O : WKt), wk_in S W l O → W < f + O.1 → wk_in S W [] (wk_go S f l O)
  | 0, l, O, I, h => by
    exfalso
    have := I.2.2
    omega
  | f + 1, [], O, I, _ => I
  | f + 1, (v, u) :: l, O, I, h => wk_goI sh f _ _ (wk_onX sh I) (by show W < f + (O.1 + 1); omega)
theorem wk_allI {S : PSt} {f : Nat → Int} (sh : ps_sh S) (hf : hp_in S f) : wk_ok S (wk_all S f) ∧ (wk_all S f).1 = p_ws f 6 := by
  have L := p_wsL (f := f) 6
  have e : (2 : Nat) ^ 6 = 64 := by decide
  rw [e] at L
  obtain ⟨a, -, c⟩ := wk_goI sh 64 _ _ (wk_in0 hf) (by show p_ws f 6 < 64 + 0; omega)
  exact ⟨a, by have : (0 : Nat) + (wk_all S f).1 = p_ws f 6 := c; omega⟩
-- THE CLASS'S WALK
def wl_ok (h : MH) (wa : Nat) : Prop := ((h_k h wa).1 = 8 ∧ 16 ≤ wa ∧ wa < 16 + h_n h) ∧ (∀ k, k < 7 → (h_k h (h_r h wa k)).1 = 20 ∧ 16 ≤ h_r h wa k ∧ h_r h wa k < 16 + h_n h ∧ (63 : Int) ≤ ((h_k h (h_r h wa k)).2 : Int)) ∧ ∀ a b, a < 7 → b < 7 → a ≠ b → h_r h wa a ≠ h_r h wa b
theorem wl_ne {h : MH} {wa k : Nat} (ok : wl_ok h wa) (hk : k < 7) : h_r h wa k ≠ wa := fun z => by
  have a := (ok.2.1 k hk).1
  rw [z, ok.1.1] at a
  omega
def wl_of (h0 : MH) (H : Nat → Nat → Int) (wa : Nat) (S : PSt) (O : WKt) : Prop := H wa 8 = (O.1 : Int) ∧ ∀ i, i < O.1 → H (h_r h0 wa 0) i = O.2.1 i ∧ H (h_r h0 wa 1) i = 128 * ps_y S (O.2.1 i).toNat + ps_t S (O.2.1 i).toNat ∧ H (h_r h0 wa 2) i = O.2.2.1 i ∧ H (h_r h0 wa 3) i = O.2.2.2 i
def wl_st (h0 : MH) (H : Nat → Nat → Int) (wa : Nat) (l : List (Int × Int)) : Prop := H wa 9 = (l.length : Int) ∧ wk_st (H (h_r h0 wa 5)) (H (h_r h0 wa 6)) l.length = l
-- what a walk leaves as it was
def wl_fr (h0 : MH) (wa : Nat) (H0 H : Nat → Nat → Int) : Prop := ∀ a, a ≠ wa → (∀ k, k < 7 → a ≠ h_r h0 wa k) → H a = H0 a
section
variable {lv : List (Nat × Value)} {Q : Option Value → MH → Prop} {h0 h : MH} {H : Nat → Nat → Int}
theorem r_pu0 {wa : Nat} {v u : Int} (M : RX h0 h H) (e0 : m_lk lv 0 = some (.ref wa)) {lx1 : Int32} (e1 : m_lk lv 1 = some (.int lx1)) (lq1 : lx1.toInt = v) {lx2 : Int32} (e2 : m_lk lv 2 = some (.int lx2)) (lq2 : lx2.toInt = u) (t0 : 0 ≤ H wa 9) (ne5 : AN (h_r h0 wa 5) (wa)) (ne6 : AN (h_r h0 wa 6) (wa)) (ne65 : AN (h_r h0 wa 6) (h_r h0 wa 5)) (hk0 : (h_k h0 wa).1 = 8) (ha0 : (h_k h0 (h_r h0 wa 5)).1 = 20) (hl0 : 63 ≤ ((h_k h0 (h_r h0 wa 5)).2 : Int)) (hs0 : 16 ≤ h_r h0 wa 5) (ha1 : (h_k h0 (h_r h0 wa 6)).1 = 20) (hl1 : 63 ≤ ((h_k h0 (h_r h0 wa 6)).2 : Int)) (hs1 : 16 ≤ h_r h0 wa 6)
    (g0 : v = (-1) → Q none h)
    (g1 : v ≠ (-1) → H wa 9 ≥ 63 → Q none h)
    (g2 : ∀ h5 : MH, ∀ H5 : Nat → Nat → Int, H5 = m_u H (h_r h0 wa 5) (m_u (H (h_r h0 wa 5)) (H wa 9).toNat (v)) → ∀ h7 : MH, ∀ H7 : Nat → Nat → Int, H7 = m_u H5 (h_r h0 wa 6) (m_u (H5 (h_r h0 wa 6)) (H wa 9).toNat (u)) → ∀ h11 : MH, ∀ H11 : Nat → Nat → Int, H11 = m_u H7 wa (m_u (H7 wa) 9 ((H wa 9) + 1)) → RX h0 h11 H11 → v ≠ (-1) → H wa 9 < 63 → Q none h11)
    : HJ 75 0 lv [] h Q := by
  refine hI_il (k := 1) rfl e1 rfl ?_ -- 0
  refine hM_ic (n := (-1)) rfl (by decide) rfl (fun x1 q1 => ?_) -- 1
  refine hM_ceq (off := 42) (t := 44) rfl lq1 q1 (by decide) rfl (fun c2 => ?_) (fun c2 => ?_) -- 2
  · refine hI_rv rfl rfl ?_
    exact g0 c2
  · refine hI_al (k := 0) rfl e0 rfl ?_ -- 5
    refine hR_gi (c := 7) (k := 9) M hk0 rfl rfl rfl rfl (fun x2 q2 => ?_) -- 6
    have gb2 : -2147483648 ≤ H wa 9 ∧ H wa 9 ≤ 2147483647 := by rw [← q2]; exact g_iT _
    refine hM_bp (n := 63) rfl (by decide) rfl (fun x3 q3 => ?_) -- 9
    refine hM_cge (off := 33) (t := 44) rfl q2 q3 (by decide) rfl (fun c11 => ?_) (fun c11 => ?_) -- 11
    · refine hI_rv rfl rfl ?_
      exact g1 c2 c11
    · refine hI_al (k := 0) rfl e0 rfl ?_ -- 14
      refine hR_gr (c := 7) (k := 5) M hk0 rfl rfl rfl rfl ?_ -- 15
      refine hI_al (k := 0) rfl e0 rfl ?_ -- 18
      refine hR_gi (c := 7) (k := 9) M hk0 rfl rfl rfl rfl (fun x4 q4 => ?_) -- 19
      have gb4 : -2147483648 ≤ H wa 9 ∧ H wa 9 ≤ 2147483647 := by rw [← q4]; exact g_iT _
      refine hI_il (k := 1) rfl e1 rfl ?_ -- 22
      refine hR_is M hs0 ha0 q4 lq1 (by omega) (by omega) rfl rfl (fun h5 H5 f5 M5 => ?_) -- 23
      refine hI_al (k := 0) rfl e0 rfl ?_ -- 24
      refine hR_gr (c := 7) (k := 6) M5 hk0 rfl rfl rfl rfl ?_ -- 25
      refine hI_al (k := 0) rfl e0 rfl ?_ -- 28
      refine hR_gi (c := 7) (k := 9) M5 hk0 rfl rfl rfl rfl (fun x6 q6 => ?_) -- 29
      rw [show H5 wa 9 = H wa 9 by rw [f5, m_uN _ _ _ _ (Ne.symm ne5)]] at q6
      have gb6 : -2147483648 ≤ H wa 9 ∧ H wa 9 ≤ 2147483647 := by rw [← q6]; exact g_iT _
      refine hI_il (k := 2) rfl e2 rfl ?_ -- 32
      refine hR_is M5 hs1 ha1 q6 lq2 (by omega) (by omega) rfl rfl (fun h7 H7 f7 M7 => ?_) -- 33
      refine hI_al (k := 0) rfl e0 rfl ?_ -- 34
      refine hI_dup rfl rfl rfl ?_ -- 35
      refine hR_gi (c := 7) (k := 9) M7 hk0 rfl rfl rfl rfl (fun x8 q8 => ?_) -- 36
      rw [show H7 wa 9 = H wa 9 by rw [f7, m_uN _ _ _ _ (Ne.symm ne6), f5, m_uN _ _ _ _ (Ne.symm ne5)]] at q8
      have gb8 : -2147483648 ≤ H wa 9 ∧ H wa 9 ≤ 2147483647 := by rw [← q8]; exact g_iT _
      refine hM_ic (n := 1) rfl (by decide) rfl (fun x9 q9 => ?_) -- 39
      refine hM_add rfl q8 q9 (by omega) (by omega) rfl (fun x10 q10 => ?_) -- 40
      refine hR_pi (c := 7) (k := 9) M7 hk0 rfl rfl ⟨by decide, by decide +kernel, rfl⟩ q10 rfl (fun h11 H11 f11 M11 => ?_) -- 41
      refine hI_rv rfl rfl ?_
      exact g2 h5 H5 f5 h7 H7 f7 h11 H11 f11 M11 c2 c11
theorem r_lo0 {wa nd hp : Nat} (M : RX h0 h H) (e0 : m_lk lv 0 = some (.ref wa)) (e1 : m_lk lv 1 = some (.ref nd)) (e2 : m_lk lv 2 = some (.ref hp))  (hk0 : (h_k h0 wa).1 = 8)
    (g0 : ∀ h2 : MH, ∀ H2 : Nat → Nat → Int, H2 = m_u H wa (m_u (H wa) 8 (0)) → ∀ h4 : MH, ∀ H4 : Nat → Nat → Int, H4 = m_u H2 wa (m_u (H2 wa) 9 (0)) → ∀ x5 : Int32, x5.toInt = 5 → ∀ lv6 : List (Nat × Value), RX h0 h4 H4 → m_lk lv6 0 = some (.ref wa) → m_lk lv6 1 = some (.ref nd) → m_lk lv6 2 = some (.ref hp) → m_lk lv6 3 = some (.int x5) → HJ 74 12 lv6 [] h4 Q)
    : HJ 74 0 lv [] h Q := by
  refine hI_al (k := 0) rfl e0 rfl ?_ -- 0
  refine hM_ic (n := 0) rfl (by decide) rfl (fun x1 q1 => ?_) -- 1
  refine hR_pi (c := 7) (k := 8) M hk0 rfl rfl ⟨by decide, by decide +kernel, rfl⟩ q1 rfl (fun h2 H2 f2 M2 => ?_) -- 2
  refine hI_al (k := 0) rfl e0 rfl ?_ -- 5
  refine hM_ic (n := 0) rfl (by decide) rfl (fun x3 q3 => ?_) -- 6
  refine hR_pi (c := 7) (k := 9) M2 hk0 rfl rfl ⟨by decide, by decide +kernel, rfl⟩ q3 rfl (fun h4 H4 f4 M4 => ?_) -- 7
  refine hM_ic (n := 5) rfl (by decide) rfl (fun x5 q5 => ?_) -- 10
  refine hM_si (k := 3) rfl (by decide +kernel) rfl (fun lv6 e6_3 u6 => ?_) -- 11
  have e6_0 := u6 0 _ (by decide) (Or.inl rfl) e0
  have e6_1 := u6 1 _ (by decide) (Or.inl rfl) e1
  have e6_2 := u6 2 _ (by decide) (Or.inl rfl) e2
  exact g0 h2 H2 f2 h4 H4 f4 x5 q5 lv6 M4 e6_0 e6_1 e6_2 e6_3
theorem r_lo12 {wa nd hp : Nat} {r : Int} (M : RX h0 h H) (e0 : m_lk lv 0 = some (.ref wa)) (e1 : m_lk lv 1 = some (.ref nd)) (e2 : m_lk lv 2 = some (.ref hp)) {lx3 : Int32} (e3 : m_lk lv 3 = some (.int lx3)) (lq3 : lx3.toInt = r) (r1 : r ≤ 5) (ha0 : (h_k h0 hp).1 = 20) (hl0 : 6 ≤ ((h_k h0 hp).2 : Int)) (hs0 : 16 ≤ wa) (hk0 : (h_k h0 wa).1 = 8)
    (g0 : r < 0 → HJ 74 30 lv [] h Q)
    (g1 : ∀ x1 : Int32, x1.toInt = H hp (r).toNat → ∀ x2 : Int32, x2.toInt = (-1) → r ≥ 0 → HJ 75 0 (lv_args 0 [.ref wa, .int x1, .int x2]) [] h (fun v h' => HJ 74 24 lv (v.toList ++ []) h' Q))
    : HJ 74 12 lv [] h Q := by
  refine hI_il (k := 3) rfl e3 rfl ?_ -- 12
  refine hM_zlt (off := 17) (t := 30) rfl lq3 (by decide) rfl (fun c13 => ?_) (fun c13 => ?_) -- 13
  · exact g0 c13
  · refine hI_al (k := 0) rfl e0 rfl ?_ -- 16
    refine hI_al (k := 2) rfl e2 rfl ?_ -- 17
    refine hI_il (k := 3) rfl e3 rfl ?_ -- 18
    refine hR_ia M ha0 lq3 (by omega) (by omega) rfl rfl (fun x1 q1 => ?_) -- 19
    have gb1 : -2147483648 ≤ H hp (r).toNat ∧ H hp (r).toNat ≤ 2147483647 := by rw [← q1]; exact g_iT _
    refine hM_ic (n := (-1)) rfl (by decide) rfl (fun x2 q2 => ?_) -- 20
    refine HJ.call (j := 75) (as := [.ref wa, .int x1, .int x2]) (rr := []) (pc' := 24) (m_cR (kc := 7) rfl rfl (by decide +kernel) rfl rfl rfl ⟨rfl, by decide +kernel, by decide +kernel⟩ (by decide) hs0 (by rw [M.2.1]; exact hk0)) (by show 3 ≤ m_lc 75; decide +kernel) ?_ -- 21
    exact g1 x1 q1 x2 q2 c13
theorem r_lo24 {wa nd hp : Nat} {r : Int} (M : RX h0 h H) (e0 : m_lk lv 0 = some (.ref wa)) (e1 : m_lk lv 1 = some (.ref nd)) (e2 : m_lk lv 2 = some (.ref hp)) {lx3 : Int32} (e3 : m_lk lv 3 = some (.int lx3)) (lq3 : lx3.toInt = r) (r0 : 0 ≤ r) (r1 : r ≤ 5)
    (g0 : ∀ x1 : Int32, x1.toInt = r + (-1) → ∀ lv1 : List (Nat × Value), m_lk lv1 0 = some (.ref wa) → m_lk lv1 1 = some (.ref nd) → m_lk lv1 2 = some (.ref hp) → m_lk lv1 3 = some (.int x1) → HJ 74 12 lv1 [] h Q)
    : HJ 74 24 lv [] h Q := by
  refine hM_inc (k := 3) (z := (-1)) rfl e3 lq3 (by decide) (by omega) (by omega) (by decide +kernel) rfl (fun lv1 x1 q1 e1_3 u1 => ?_) -- 24
  have e1_0 := u1 0 _ (by decide) (Or.inl rfl) e0
  have e1_1 := u1 1 _ (by decide) (Or.inl rfl) e1
  have e1_2 := u1 2 _ (by decide) (Or.inl rfl) e2
  refine hI_go (pc' := 12) (off := (-15)) rfl (by decide) ?_ -- 27
  exact g0 x1 q1 lv1 e1_0 e1_1 e1_2 e1_3
theorem r_lo30 {wa nd hp : Nat} (M : RX h0 h H) (e0 : m_lk lv 0 = some (.ref wa)) (e1 : m_lk lv 1 = some (.ref nd)) (e2 : m_lk lv 2 = some (.ref hp)) (t0 : 0 ≤ H wa 9) (t1 : H wa 9 ≤ 63) (w0 : 0 ≤ H wa 8) (ne0 : AN (h_r h0 wa 0) (wa)) (ne1 : AN (h_r h0 wa 1) (wa)) (ne2 : AN (h_r h0 wa 2) (wa)) (ne3 : AN (h_r h0 wa 3) (wa)) (ne5 : AN (h_r h0 wa 5) (wa)) (ne6 : AN (h_r h0 wa 6) (wa)) (neN : AN (nd) (wa)) (ne01 : AN (h_r h0 wa 0) (h_r h0 wa 1)) (ne02 : AN (h_r h0 wa 0) (h_r h0 wa 2)) (ne03 : AN (h_r h0 wa 0) (h_r h0 wa 3)) (ne05 : AN (h_r h0 wa 0) (h_r h0 wa 5)) (ne06 : AN (h_r h0 wa 0) (h_r h0 wa 6)) (ne12 : AN (h_r h0 wa 1) (h_r h0 wa 2)) (ne13 : AN (h_r h0 wa 1) (h_r h0 wa 3)) (ne15 : AN (h_r h0 wa 1) (h_r h0 wa 5)) (ne16 : AN (h_r h0 wa 1) (h_r h0 wa 6)) (ne23 : AN (h_r h0 wa 2) (h_r h0 wa 3)) (ne25 : AN (h_r h0 wa 2) (h_r h0 wa 5)) (ne26 : AN (h_r h0 wa 2) (h_r h0 wa 6)) (ne35 : AN (h_r h0 wa 3) (h_r h0 wa 5)) (ne36 : AN (h_r h0 wa 3) (h_r h0 wa 6)) (ne56 : AN (h_r h0 wa 5) (h_r h0 wa 6)) (hk0 : (h_k h0 wa).1 = 8) (ha0 : (h_k h0 (h_r h0 wa 5)).1 = 20) (hl0 : 63 ≤ ((h_k h0 (h_r h0 wa 5)).2 : Int)) (ha1 : (h_k h0 (h_r h0 wa 6)).1 = 20) (hl1 : 63 ≤ ((h_k h0 (h_r h0 wa 6)).2 : Int)) (ha2 : (h_k h0 (h_r h0 wa 0)).1 = 20) (hl2 : 63 ≤ ((h_k h0 (h_r h0 wa 0)).2 : Int)) (hs0 : 16 ≤ h_r h0 wa 0) (hs1 : 16 ≤ nd) (hk1 : (h_k h0 nd).1 = 3)
    (g0 : H wa 9 ≤ 0 → Q none h)
    (g1 : H wa 9 > 0 → H wa 8 ≥ 63 → Q none h)
    (g2 : ∀ h7 : MH, ∀ H7 : Nat → Nat → Int, H7 = m_u H wa (m_u (H wa) 9 ((H wa 9) - 1)) → ∀ x9 : Int32, x9.toInt = H (h_r h0 wa 5) (((H wa 9) - 1)).toNat → ∀ x12 : Int32, x12.toInt = H (h_r h0 wa 6) (((H wa 9) - 1)).toNat → ∀ x14 : Int32, x14.toInt = H wa 8 → ∀ h19 : MH, ∀ H19 : Nat → Nat → Int, H19 = m_u H7 wa (m_u (H7 wa) 8 ((H wa 8) + 1)) → ∀ h20 : MH, ∀ H20 : Nat → Nat → Int, H20 = m_u H19 (h_r h0 wa 0) (m_u (H19 (h_r h0 wa 0)) (H wa 8).toNat (H (h_r h0 wa 5) (((H wa 9) - 1)).toNat)) → ∀ lv15 : List (Nat × Value), RX h0 h20 H20 → m_lk lv15 0 = some (.ref wa) → m_lk lv15 1 = some (.ref nd) → m_lk lv15 2 = some (.ref hp) → m_lk lv15 3 = some (.int x9) → m_lk lv15 4 = some (.int x12) → m_lk lv15 5 = some (.int x14) → H wa 9 > 0 → H wa 8 < 63 → HJ 66 0 (lv_args 0 [.ref nd, .int x9]) [] h20 (fun v h' => HJ 74 112 lv15 (v.toList ++ [.int x14, .ref (h_r h0 wa 1)]) h' Q))
    : HJ 74 30 lv [] h Q := by
  refine hI_al (k := 0) rfl e0 rfl ?_ -- 30
  refine hR_gi (c := 7) (k := 9) M hk0 rfl rfl rfl rfl (fun x1 q1 => ?_) -- 31
  have gb1 : -2147483648 ≤ H wa 9 ∧ H wa 9 ≤ 2147483647 := by rw [← q1]; exact g_iT _
  refine hM_zle (off := 150) (t := 184) rfl q1 (by decide) rfl (fun c34 => ?_) (fun c34 => ?_) -- 34
  · refine hI_rv rfl rfl ?_
    exact g0 c34
  · refine hI_al (k := 0) rfl e0 rfl ?_ -- 37
    refine hR_gi (c := 7) (k := 8) M hk0 rfl rfl rfl rfl (fun x2 q2 => ?_) -- 38
    have gb2 : -2147483648 ≤ H wa 8 ∧ H wa 8 ≤ 2147483647 := by rw [← q2]; exact g_iT _
    refine hM_bp (n := 63) rfl (by decide) rfl (fun x3 q3 => ?_) -- 41
    refine hM_cge (off := 141) (t := 184) rfl q2 q3 (by decide) rfl (fun c43 => ?_) (fun c43 => ?_) -- 43
    · refine hI_rv rfl rfl ?_
      exact g1 c34 c43
    · refine hI_al (k := 0) rfl e0 rfl ?_ -- 46
      refine hI_dup rfl rfl rfl ?_ -- 47
      refine hR_gi (c := 7) (k := 9) M hk0 rfl rfl rfl rfl (fun x4 q4 => ?_) -- 48
      have gb4 : -2147483648 ≤ H wa 9 ∧ H wa 9 ≤ 2147483647 := by rw [← q4]; exact g_iT _
      refine hM_ic (n := 1) rfl (by decide) rfl (fun x5 q5 => ?_) -- 51
      refine hM_sub rfl q4 q5 (by omega) (by omega) rfl (fun x6 q6 => ?_) -- 52
      refine hR_pi (c := 7) (k := 9) M hk0 rfl rfl ⟨by decide, by decide +kernel, rfl⟩ q6 rfl (fun h7 H7 f7 M7 => ?_) -- 53
      refine hI_al (k := 0) rfl e0 rfl ?_ -- 56
      refine hR_gr (c := 7) (k := 5) M7 hk0 rfl rfl rfl rfl ?_ -- 57
      refine hI_al (k := 0) rfl e0 rfl ?_ -- 60
      refine hR_gi (c := 7) (k := 9) M7 hk0 rfl rfl rfl rfl (fun x8 q8 => ?_) -- 61
      rw [show H7 wa 9 = ((H wa 9) - 1) by rw [f7, m_uE, m_uE]] at q8
      have gb8 : -2147483648 ≤ ((H wa 9) - 1) ∧ ((H wa 9) - 1) ≤ 2147483647 := by rw [← q8]; exact g_iT _
      refine hR_ia M7 ha0 q8 (by omega) (by omega) rfl rfl (fun x9 q9 => ?_) -- 64
      rw [show H7 (h_r h0 wa 5) (((H wa 9) - 1)).toNat = H (h_r h0 wa 5) (((H wa 9) - 1)).toNat by rw [f7, m_uN _ _ _ _ ne5]] at q9
      have gb9 : -2147483648 ≤ H (h_r h0 wa 5) (((H wa 9) - 1)).toNat ∧ H (h_r h0 wa 5) (((H wa 9) - 1)).toNat ≤ 2147483647 := by rw [← q9]; exact g_iT _
      refine hM_si (k := 3) rfl (by decide +kernel) rfl (fun lv10 e10_3 u10 => ?_) -- 65
      have e10_0 := u10 0 _ (by decide) (Or.inl rfl) e0
      have e10_1 := u10 1 _ (by decide) (Or.inl rfl) e1
      have e10_2 := u10 2 _ (by decide) (Or.inl rfl) e2
      refine hI_al (k := 0) rfl e10_0 rfl ?_ -- 66
      refine hR_gr (c := 7) (k := 6) M7 hk0 rfl rfl rfl rfl ?_ -- 67
      refine hI_al (k := 0) rfl e10_0 rfl ?_ -- 70
      refine hR_gi (c := 7) (k := 9) M7 hk0 rfl rfl rfl rfl (fun x11 q11 => ?_) -- 71
      rw [show H7 wa 9 = ((H wa 9) - 1) by rw [f7, m_uE, m_uE]] at q11
      have gb11 : -2147483648 ≤ ((H wa 9) - 1) ∧ ((H wa 9) - 1) ≤ 2147483647 := by rw [← q11]; exact g_iT _
      refine hR_ia M7 ha1 q11 (by omega) (by omega) rfl rfl (fun x12 q12 => ?_) -- 74
      rw [show H7 (h_r h0 wa 6) (((H wa 9) - 1)).toNat = H (h_r h0 wa 6) (((H wa 9) - 1)).toNat by rw [f7, m_uN _ _ _ _ ne6]] at q12
      have gb12 : -2147483648 ≤ H (h_r h0 wa 6) (((H wa 9) - 1)).toNat ∧ H (h_r h0 wa 6) (((H wa 9) - 1)).toNat ≤ 2147483647 := by rw [← q12]; exact g_iT _
      refine hM_si2 (k := 4) rfl (by decide +kernel) rfl (fun lv13 e13_4 u13 => ?_) -- 75
      have e13_0 := u13 0 _ (by decide) (Or.inl rfl) e10_0
      have e13_1 := u13 1 _ (by decide) (Or.inl rfl) e10_1
      have e13_2 := u13 2 _ (by decide) (Or.inl rfl) e10_2
      have e13_3 := u13 3 _ (by decide) (Or.inl rfl) e10_3
      refine hI_al (k := 0) rfl e13_0 rfl ?_ -- 77
      refine hR_gi (c := 7) (k := 8) M7 hk0 rfl rfl rfl rfl (fun x14 q14 => ?_) -- 78
      rw [show H7 wa 8 = H wa 8 by rw [f7, m_uE, m_uN _ _ _ _ (by decide)]] at q14
      have gb14 : -2147483648 ≤ H wa 8 ∧ H wa 8 ≤ 2147483647 := by rw [← q14]; exact g_iT _
      refine hM_si2 (k := 5) rfl (by decide +kernel) rfl (fun lv15 e15_5 u15 => ?_) -- 81
      have e15_0 := u15 0 _ (by decide) (Or.inl rfl) e13_0
      have e15_1 := u15 1 _ (by decide) (Or.inl rfl) e13_1
      have e15_2 := u15 2 _ (by decide) (Or.inl rfl) e13_2
      have e15_3 := u15 3 _ (by decide) (Or.inl rfl) e13_3
      have e15_4 := u15 4 _ (by decide) (Or.inl rfl) e13_4
      refine hI_al (k := 0) rfl e15_0 rfl ?_ -- 83
      refine hI_dup rfl rfl rfl ?_ -- 84
      refine hR_gi (c := 7) (k := 8) M7 hk0 rfl rfl rfl rfl (fun x16 q16 => ?_) -- 85
      rw [show H7 wa 8 = H wa 8 by rw [f7, m_uE, m_uN _ _ _ _ (by decide)]] at q16
      have gb16 : -2147483648 ≤ H wa 8 ∧ H wa 8 ≤ 2147483647 := by rw [← q16]; exact g_iT _
      refine hM_ic (n := 1) rfl (by decide) rfl (fun x17 q17 => ?_) -- 88
      refine hM_add rfl q16 q17 (by omega) (by omega) rfl (fun x18 q18 => ?_) -- 89
      refine hR_pi (c := 7) (k := 8) M7 hk0 rfl rfl ⟨by decide, by decide +kernel, rfl⟩ q18 rfl (fun h19 H19 f19 M19 => ?_) -- 90
      refine hI_al (k := 0) rfl e15_0 rfl ?_ -- 93
      refine hR_gr (c := 7) (k := 0) M19 hk0 rfl rfl rfl rfl ?_ -- 94
      refine hI_il2 (k := 5) rfl e15_5 rfl ?_ -- 97
      refine hI_il (k := 3) rfl e15_3 rfl ?_ -- 99
      refine hR_is M19 hs0 ha2 q14 q9 (by omega) (by omega) rfl rfl (fun h20 H20 f20 M20 => ?_) -- 100
      refine hI_al (k := 0) rfl e15_0 rfl ?_ -- 101
      refine hR_gr (c := 7) (k := 1) M20 hk0 rfl rfl rfl rfl ?_ -- 102
      refine hI_il2 (k := 5) rfl e15_5 rfl ?_ -- 105
      refine hI_al (k := 1) rfl e15_1 rfl ?_ -- 107
      refine hI_il (k := 3) rfl e15_3 rfl ?_ -- 108
      refine HJ.call (j := 66) (as := [.ref nd, .int x9]) (rr := [.int x14, .ref (h_r h0 wa 1)]) (pc' := 112) (m_cR (kc := 2) rfl rfl (by decide +kernel) rfl rfl rfl ⟨rfl, by decide +kernel, by decide +kernel⟩ (by decide) hs1 (by rw [M20.2.1]; exact hk1)) (by show 2 ≤ m_lc 66; decide +kernel) ?_ -- 109
      exact g2 h7 H7 f7 x9 q9 x12 q12 x14 q14 h19 H19 f19 h20 H20 f20 lv15 M20 e15_0 e15_1 e15_2 e15_3 e15_4 e15_5 c34 c43
theorem r_lo112 {wa nd hp : Nat} {v u w p : Int} (M : RX h0 h H) (e0 : m_lk lv 0 = some (.ref wa)) (e1 : m_lk lv 1 = some (.ref nd)) (e2 : m_lk lv 2 = some (.ref hp)) {lx3 : Int32} (e3 : m_lk lv 3 = some (.int lx3)) (lq3 : lx3.toInt = v) {lx4 : Int32} (e4 : m_lk lv 4 = some (.int lx4)) (lq4 : lx4.toInt = u) {lx5 : Int32} (e5 : m_lk lv 5 = some (.int lx5)) (lq5 : lx5.toInt = w) {sx1 : Int32} (sq1 : sx1.toInt = w) {sx2 : Int32} (sq2 : sx2.toInt = p) (w0 : 0 ≤ w) (w1 : w < 63) (u0 : -1 ≤ u) (u1 : u < w) (d0 : u ≠ -1 → 0 ≤ H (h_r h0 wa 3) u.toNat ∧ H (h_r h0 wa 3) u.toNat ≤ 62) (ne0 : AN (h_r h0 wa 0) (wa)) (ne1 : AN (h_r h0 wa 1) (wa)) (ne2 : AN (h_r h0 wa 2) (wa)) (ne3 : AN (h_r h0 wa 3) (wa)) (ne5 : AN (h_r h0 wa 5) (wa)) (ne6 : AN (h_r h0 wa 6) (wa)) (neN : AN (nd) (wa)) (ne01 : AN (h_r h0 wa 0) (h_r h0 wa 1)) (ne02 : AN (h_r h0 wa 0) (h_r h0 wa 2)) (ne03 : AN (h_r h0 wa 0) (h_r h0 wa 3)) (ne05 : AN (h_r h0 wa 0) (h_r h0 wa 5)) (ne06 : AN (h_r h0 wa 0) (h_r h0 wa 6)) (ne12 : AN (h_r h0 wa 1) (h_r h0 wa 2)) (ne13 : AN (h_r h0 wa 1) (h_r h0 wa 3)) (ne15 : AN (h_r h0 wa 1) (h_r h0 wa 5)) (ne16 : AN (h_r h0 wa 1) (h_r h0 wa 6)) (ne23 : AN (h_r h0 wa 2) (h_r h0 wa 3)) (ne25 : AN (h_r h0 wa 2) (h_r h0 wa 5)) (ne26 : AN (h_r h0 wa 2) (h_r h0 wa 6)) (ne35 : AN (h_r h0 wa 3) (h_r h0 wa 5)) (ne36 : AN (h_r h0 wa 3) (h_r h0 wa 6)) (ne56 : AN (h_r h0 wa 5) (h_r h0 wa 6)) (ha0 : (h_k h0 (h_r h0 wa 1)).1 = 20) (hl0 : 63 ≤ ((h_k h0 (h_r h0 wa 1)).2 : Int)) (hs0 : 16 ≤ h_r h0 wa 1) (hk0 : (h_k h0 wa).1 = 8) (ha1 : (h_k h0 (h_r h0 wa 2)).1 = 20) (hl1 : 63 ≤ ((h_k h0 (h_r h0 wa 2)).2 : Int)) (hs1 : 16 ≤ h_r h0 wa 2) (ha2 : (h_k h0 (h_r h0 wa 3)).1 = 20) (hl2 : 63 ≤ ((h_k h0 (h_r h0 wa 3)).2 : Int)) (hs2 : 16 ≤ h_r h0 wa 3) (hs3 : 16 ≤ nd) (hk1 : (h_k h0 nd).1 = 3)
    (g0 : ∀ h1 : MH, ∀ H1 : Nat → Nat → Int, H1 = m_u H (h_r h0 wa 1) (m_u (H (h_r h0 wa 1)) (w).toNat (p)) → ∀ h2 : MH, ∀ H2 : Nat → Nat → Int, H2 = m_u H1 (h_r h0 wa 2) (m_u (H1 (h_r h0 wa 2)) (w).toNat (u)) → ∀ h7 : MH, ∀ H7 : Nat → Nat → Int, H7 = m_u H2 (h_r h0 wa 3) (m_u (H2 (h_r h0 wa 3)) (w).toNat ((H (h_r h0 wa 3) (u).toNat) + 1)) → RX h0 h7 H7 → u ≠ (-1) → HJ 67 0 (lv_args 0 [.ref nd, .int lx3]) [] h7 (fun v h' => HJ 74 153 lv (v.toList ++ []) h' Q))
    (g1 : ∀ h1 : MH, ∀ H1 : Nat → Nat → Int, H1 = m_u H (h_r h0 wa 1) (m_u (H (h_r h0 wa 1)) (w).toNat (p)) → ∀ h2 : MH, ∀ H2 : Nat → Nat → Int, H2 = m_u H1 (h_r h0 wa 2) (m_u (H1 (h_r h0 wa 2)) (w).toNat (u)) → ∀ h9 : MH, ∀ H9 : Nat → Nat → Int, H9 = m_u H2 (h_r h0 wa 3) (m_u (H2 (h_r h0 wa 3)) (w).toNat (0)) → RX h0 h9 H9 → u = (-1) → HJ 67 0 (lv_args 0 [.ref nd, .int lx3]) [] h9 (fun v h' => HJ 74 153 lv (v.toList ++ []) h' Q))
    : HJ 74 112 lv [.int sx2, .int sx1, .ref (h_r h0 wa 1)] h Q := by
  refine hR_is M hs0 ha0 sq1 sq2 (by omega) (by omega) rfl rfl (fun h1 H1 f1 M1 => ?_) -- 112
  refine hI_al (k := 0) rfl e0 rfl ?_ -- 113
  refine hR_gr (c := 7) (k := 2) M1 hk0 rfl rfl rfl rfl ?_ -- 114
  refine hI_il2 (k := 5) rfl e5 rfl ?_ -- 117
  refine hI_il2 (k := 4) rfl e4 rfl ?_ -- 119
  refine hR_is M1 hs1 ha1 lq5 lq4 (by omega) (by omega) rfl rfl (fun h2 H2 f2 M2 => ?_) -- 121
  refine hI_al (k := 0) rfl e0 rfl ?_ -- 122
  refine hR_gr (c := 7) (k := 3) M2 hk0 rfl rfl rfl rfl ?_ -- 123
  refine hI_il2 (k := 5) rfl e5 rfl ?_ -- 126
  refine hI_il2 (k := 4) rfl e4 rfl ?_ -- 128
  refine hM_ic (n := (-1)) rfl (by decide) rfl (fun x3 q3 => ?_) -- 130
  refine hM_cne (off := 7) (t := 138) rfl lq4 q3 (by decide) rfl (fun c131 => ?_) (fun c131 => ?_) -- 131
  · refine hI_al (k := 0) rfl e0 rfl ?_ -- 138
    refine hR_gr (c := 7) (k := 3) M2 hk0 rfl rfl rfl rfl ?_ -- 139
    refine hI_il2 (k := 4) rfl e4 rfl ?_ -- 142
    refine hR_ia M2 ha2 lq4 (by omega) (by omega) rfl rfl (fun x4 q4 => ?_) -- 144
    rw [show H2 (h_r h0 wa 3) (u).toNat = H (h_r h0 wa 3) (u).toNat by rw [f2, m_uN _ _ _ _ (Ne.symm ne23), f1, m_uN _ _ _ _ (Ne.symm ne13)]] at q4
    have gb4 : -2147483648 ≤ H (h_r h0 wa 3) (u).toNat ∧ H (h_r h0 wa 3) (u).toNat ≤ 2147483647 := by rw [← q4]; exact g_iT _
    refine hM_ic (n := 1) rfl (by decide) rfl (fun x5 q5 => ?_) -- 145
    refine hM_add rfl q4 q5 (by omega) (by omega) rfl (fun x6 q6 => ?_) -- 146
    refine hR_is M2 hs2 ha2 lq5 q6 (by omega) (by omega) rfl rfl (fun h7 H7 f7 M7 => ?_) -- 147
    refine hI_al (k := 1) rfl e1 rfl ?_ -- 148
    refine hI_il (k := 3) rfl e3 rfl ?_ -- 149
    refine HJ.call (j := 67) (as := [.ref nd, .int lx3]) (rr := []) (pc' := 153) (m_cR (kc := 2) rfl rfl (by decide +kernel) rfl rfl rfl ⟨rfl, by decide +kernel, by decide +kernel⟩ (by decide) hs3 (by rw [M7.2.1]; exact hk1)) (by show 2 ≤ m_lc 67; decide +kernel) ?_ -- 150
    exact g0 h1 H1 f1 h2 H2 f2 h7 H7 f7 M7 c131
  · refine hM_ic (n := 0) rfl (by decide) rfl (fun x8 q8 => ?_) -- 134
    refine hI_go (pc' := 147) (off := 12) rfl (by decide) ?_ -- 135
    refine hR_is M2 hs2 ha2 lq5 q8 (by omega) (by omega) rfl rfl (fun h9 H9 f9 M9 => ?_) -- 147
    refine hI_al (k := 1) rfl e1 rfl ?_ -- 148
    refine hI_il (k := 3) rfl e3 rfl ?_ -- 149
    refine HJ.call (j := 67) (as := [.ref nd, .int lx3]) (rr := []) (pc' := 153) (m_cR (kc := 2) rfl rfl (by decide +kernel) rfl rfl rfl ⟨rfl, by decide +kernel, by decide +kernel⟩ (by decide) hs3 (by rw [M9.2.1]; exact hk1)) (by show 2 ≤ m_lc 67; decide +kernel) ?_ -- 150
    exact g1 h1 H1 f1 h2 H2 f2 h9 H9 f9 M9 c131
theorem r_lo153 {wa nd hp : Nat} {v u w k : Int} (M : RX h0 h H) (e0 : m_lk lv 0 = some (.ref wa)) (e1 : m_lk lv 1 = some (.ref nd)) (e2 : m_lk lv 2 = some (.ref hp)) {lx3 : Int32} (e3 : m_lk lv 3 = some (.int lx3)) (lq3 : lx3.toInt = v) {lx4 : Int32} (e4 : m_lk lv 4 = some (.int lx4)) (lq4 : lx4.toInt = u) {lx5 : Int32} (e5 : m_lk lv 5 = some (.int lx5)) (lq5 : lx5.toInt = w) {sx0 : Int32} (sq0 : sx0.toInt = k) (k0 : 0 ≤ k) (k1 : k ≤ 6)
    (g0 : ∀ x2 : Int32, x2.toInt = k - 1 → ∀ lv3 : List (Nat × Value), m_lk lv3 0 = some (.ref wa) → m_lk lv3 1 = some (.ref nd) → m_lk lv3 2 = some (.ref hp) → m_lk lv3 3 = some (.int lx3) → m_lk lv3 4 = some (.int lx4) → m_lk lv3 5 = some (.int lx5) → m_lk lv3 6 = some (.int x2) → HJ 74 157 lv3 [] h Q)
    : HJ 74 153 lv [.int sx0] h Q := by
  refine hM_ic (n := 1) rfl (by decide) rfl (fun x1 q1 => ?_) -- 153
  refine hM_sub rfl sq0 q1 (by omega) (by omega) rfl (fun x2 q2 => ?_) -- 154
  refine hM_si2 (k := 6) rfl (by decide +kernel) rfl (fun lv3 e3_6 u3 => ?_) -- 155
  have e3_0 := u3 0 _ (by decide) (Or.inl rfl) e0
  have e3_1 := u3 1 _ (by decide) (Or.inl rfl) e1
  have e3_2 := u3 2 _ (by decide) (Or.inl rfl) e2
  have e3_3 := u3 3 _ (by decide) (Or.inl rfl) e3
  have e3_4 := u3 4 _ (by decide) (Or.inl rfl) e4
  have e3_5 := u3 5 _ (by decide) (Or.inl rfl) e5
  exact g0 x2 q2 lv3 e3_0 e3_1 e3_2 e3_3 e3_4 e3_5 e3_6
theorem r_lo157 {wa nd hp : Nat} {v u w i : Int} (M : RX h0 h H) (e0 : m_lk lv 0 = some (.ref wa)) (e1 : m_lk lv 1 = some (.ref nd)) (e2 : m_lk lv 2 = some (.ref hp)) {lx3 : Int32} (e3 : m_lk lv 3 = some (.int lx3)) (lq3 : lx3.toInt = v) {lx4 : Int32} (e4 : m_lk lv 4 = some (.int lx4)) (lq4 : lx4.toInt = u) {lx5 : Int32} (e5 : m_lk lv 5 = some (.int lx5)) (lq5 : lx5.toInt = w) {lx6 : Int32} (e6 : m_lk lv 6 = some (.int lx6)) (lq6 : lx6.toInt = i) (i1 : i ≤ 5) (hs0 : 16 ≤ nd) (hk0 : (h_k h0 nd).1 = 3)
    (g0 : i < 0 → HJ 74 30 lv [] h Q)
    (g1 : i ≥ 0 → HJ 69 0 (lv_args 0 [.ref nd, .int lx3, .int lx6]) [] h (fun v h' => HJ 74 170 lv (v.toList ++ [.ref wa]) h' Q))
    : HJ 74 157 lv [] h Q := by
  refine hI_il2 (k := 6) rfl e6 rfl ?_ -- 157
  refine hM_zlt (off := 22) (t := 181) rfl lq6 (by decide) rfl (fun c159 => ?_) (fun c159 => ?_) -- 159
  · refine hI_go (pc' := 30) (off := (-151)) rfl (by decide) ?_ -- 181
    exact g0 c159
  · refine hI_al (k := 0) rfl e0 rfl ?_ -- 162
    refine hI_al (k := 1) rfl e1 rfl ?_ -- 163
    refine hI_il (k := 3) rfl e3 rfl ?_ -- 164
    refine hI_il2 (k := 6) rfl e6 rfl ?_ -- 165
    refine HJ.call (j := 69) (as := [.ref nd, .int lx3, .int lx6]) (rr := [.ref wa]) (pc' := 170) (m_cR (kc := 2) rfl rfl (by decide +kernel) rfl rfl rfl ⟨rfl, by decide +kernel, by decide +kernel⟩ (by decide) hs0 (by rw [M.2.1]; exact hk0)) (by show 3 ≤ m_lc 69; decide +kernel) ?_ -- 167
    exact g1 c159
theorem r_lo170 {wa nd hp : Nat} {v u w i c : Int} (M : RX h0 h H) (e0 : m_lk lv 0 = some (.ref wa)) (e1 : m_lk lv 1 = some (.ref nd)) (e2 : m_lk lv 2 = some (.ref hp)) {lx3 : Int32} (e3 : m_lk lv 3 = some (.int lx3)) (lq3 : lx3.toInt = v) {lx4 : Int32} (e4 : m_lk lv 4 = some (.int lx4)) (lq4 : lx4.toInt = u) {lx5 : Int32} (e5 : m_lk lv 5 = some (.int lx5)) (lq5 : lx5.toInt = w) {lx6 : Int32} (e6 : m_lk lv 6 = some (.int lx6)) (lq6 : lx6.toInt = i) {sx1 : Int32} (sq1 : sx1.toInt = c)  (hs0 : 16 ≤ wa) (hk0 : (h_k h0 wa).1 = 8)
    (g0 : HJ 75 0 (lv_args 0 [.ref wa, .int sx1, .int lx5]) [] h (fun v h' => HJ 74 175 lv (v.toList ++ []) h' Q))
    : HJ 74 170 lv [.int sx1, .ref wa] h Q := by
  refine hI_il2 (k := 5) rfl e5 rfl ?_ -- 170
  refine HJ.call (j := 75) (as := [.ref wa, .int sx1, .int lx5]) (rr := []) (pc' := 175) (m_cR (kc := 7) rfl rfl (by decide +kernel) rfl rfl rfl ⟨rfl, by decide +kernel, by decide +kernel⟩ (by decide) hs0 (by rw [M.2.1]; exact hk0)) (by show 3 ≤ m_lc 75; decide +kernel) ?_ -- 172
  exact g0 
theorem r_lo175 {wa nd hp : Nat} {v u w i : Int} (M : RX h0 h H) (e0 : m_lk lv 0 = some (.ref wa)) (e1 : m_lk lv 1 = some (.ref nd)) (e2 : m_lk lv 2 = some (.ref hp)) {lx3 : Int32} (e3 : m_lk lv 3 = some (.int lx3)) (lq3 : lx3.toInt = v) {lx4 : Int32} (e4 : m_lk lv 4 = some (.int lx4)) (lq4 : lx4.toInt = u) {lx5 : Int32} (e5 : m_lk lv 5 = some (.int lx5)) (lq5 : lx5.toInt = w) {lx6 : Int32} (e6 : m_lk lv 6 = some (.int lx6)) (lq6 : lx6.toInt = i) (i0 : 0 ≤ i) (i1 : i ≤ 5)
    (g0 : ∀ x1 : Int32, x1.toInt = i + (-1) → ∀ lv1 : List (Nat × Value), m_lk lv1 0 = some (.ref wa) → m_lk lv1 1 = some (.ref nd) → m_lk lv1 2 = some (.ref hp) → m_lk lv1 3 = some (.int lx3) → m_lk lv1 4 = some (.int lx4) → m_lk lv1 5 = some (.int lx5) → m_lk lv1 6 = some (.int x1) → HJ 74 157 lv1 [] h Q)
    : HJ 74 175 lv [] h Q := by
  refine hM_inc (k := 6) (z := (-1)) rfl e6 lq6 (by decide) (by omega) (by omega) (by decide +kernel) rfl (fun lv1 x1 q1 e1_6 u1 => ?_) -- 175
  have e1_0 := u1 0 _ (by decide) (Or.inl rfl) e0
  have e1_1 := u1 1 _ (by decide) (Or.inl rfl) e1
  have e1_2 := u1 2 _ (by decide) (Or.inl rfl) e2
  have e1_3 := u1 3 _ (by decide) (Or.inl rfl) e3
  have e1_4 := u1 4 _ (by decide) (Or.inl rfl) e4
  have e1_5 := u1 5 _ (by decide) (Or.inl rfl) e5
  refine hI_go (pc' := 157) (off := (-21)) rfl (by decide) ?_ -- 178
  exact g0 x1 q1 lv1 e1_0 e1_1 e1_2 e1_3 e1_4 e1_5 e1_6
theorem k_push {wa : Nat} {v u : Int} {l : List (Int × Int)} {xv xu : Int32} (M : RX h0 h H) (ok : wl_ok h0 wa) (qv : xv.toInt = v) (qu : xu.toInt = u) (vn : v ≠ -1) (T : wl_st h0 H wa l) (t1 : l.length < 63) (g : ∀ (h' : MH) (H' : Nat → Nat → Int), RX h0 h' H' → wl_st h0 H' wa ((v, u) :: l) → (∀ a, a ≠ wa → a ≠ h_r h0 wa 5 → a ≠ h_r h0 wa 6 → H' a = H a) → (∀ k, k ≠ 9 → H' wa k = H wa k) → Q none h') : HJ 75 0 (lv_args 0 [.ref wa, .int xv, .int xu]) [] h Q := by
  obtain ⟨T1, T2⟩ := T
  have n5 := wl_ne ok (show 5 < 7 by decide)
  have n6 := wl_ne ok (show 6 < 7 by decide)
  have n65 := ok.2.2 6 5 (by decide) (by decide) (by decide)
  obtain ⟨a5, b5, -, c5⟩ := ok.2.1 5 (by decide)
  obtain ⟨a6, b6, -, c6⟩ := ok.2.1 6 (by decide)
  refine r_pu0 M rfl rfl qv rfl qu (by omega) n5 n6 n65 ok.1.1 a5 c5 b5 a6 c6 b6 (fun c => absurd c vn) (fun _ c => absurd c (by omega)) (fun h5 H5 f5 h7 H7 f7 h11 H11 f11 M11 _ _ => ?_)
  rw [T1, Int.toNat_natCast] at f5 f7
  rw [T1] at f11
  have e5 : H11 (h_r h0 wa 5) = m_u (H (h_r h0 wa 5)) l.length v := by rw [f11, m_uN _ _ _ _ n5, f7, m_uN _ _ _ _ (Ne.symm n65), f5, m_uE]
  have e6 : H11 (h_r h0 wa 6) = m_u (H (h_r h0 wa 6)) l.length u := by rw [f11, m_uN _ _ _ _ n6, f7, m_uE, f5, m_uN _ _ _ _ n65]
  refine g h11 H11 M11 ⟨?_, ?_⟩ (fun a ha h5' h6' => ?_) (fun k hk => ?_)
  · rw [f11, m_uE, m_uE]
    show (l.length : Int) + 1 = ((l.length + 1 : Nat) : Int)
    omega
  · show (H11 (h_r h0 wa 5) l.length, H11 (h_r h0 wa 6) l.length) :: wk_st (H11 (h_r h0 wa 5)) (H11 (h_r h0 wa 6)) l.length = (v, u) :: l
    rw [e5, e6, m_uE, m_uE, wk_stC (P := H (h_r h0 wa 5)) (U := H (h_r h0 wa 6)) (fun j hj => ⟨m_uN _ _ _ _ (by omega), m_uN _ _ _ _ (by omega)⟩), T2]
  · rw [f11, m_uN _ _ _ _ ha, f7, m_uN _ _ _ _ h6', f5, m_uN _ _ _ _ h5']
  · rw [f11, m_uE, m_uN _ _ _ _ hk, f7, m_uN _ _ _ _ (Ne.symm n6), f5, m_uN _ _ _ _ (Ne.symm n5)]
theorem k_push0 {wa : Nat} {v : Int} {xv xu : Int32} (M : RX h0 h H) (qv : xv.toInt = v) (vn : v = -1) (g : Q none h) : HJ 75 0 (lv_args 0 [.ref wa, .int xv, .int xu]) [] h Q := by
  refine hI_il (k := 1) (x := xv) rfl rfl rfl ?_
  refine hM_ic (n := -1) rfl (by decide) rfl (fun x1 q1 => ?_)
  refine hM_ceq (t := 44) rfl qv q1 (by decide) rfl (fun _ => ?_) (fun c => absurd c (by omega))
  exact hI_rv rfl rfl g
-- the roots are put on the list
theorem l_loR {wa nd hp : Nat} {f : Nat → Int} {H0 : Nat → Nat → Int} (ok : wl_ok h0 wa) (hok : hp_ok h0 hp) (hx : hp ≠ wa ∧ ∀ k, k < 7 → hp ≠ h_r h0 wa k) (ef : hp6 (H0 hp) f) (g : ∀ (lv : List (Nat × Value)) (h' : MH) (H' : Nat → Nat → Int), RX h0 h' H' → wl_fr h0 wa H0 H' → wl_st h0 H' wa (wk_rs f 6 0) → H' wa 8 = 0 → m_lk lv 0 = some (.ref wa) → m_lk lv 1 = some (.ref nd) → m_lk lv 2 = some (.ref hp) → HJ 74 30 lv [] h' Q) : ∀ (r : Nat) (lv : List (Nat × Value)) (h : MH) (H : Nat → Nat → Int) (xr : Int32), r ≤ 6 → xr.toInt = (r : Int) - 1 → RX h0 h H → wl_fr h0 wa H0 H → wl_st h0 H wa (wk_rs f (6 - r) r) → H wa 8 = 0 → (wk_rs f (6 - r) r).length ≤ 6 - r → m_lk lv 0 = some (.ref wa) → m_lk lv 1 = some (.ref nd) → m_lk lv 2 = some (.ref hp) → m_lk lv 3 = some (.int xr) → HJ 74 12 lv [] h Q := by
  intro r
  induction r with
  | zero =>
    intro lv h H xr _ qr M fr T s0 _ e0 e1 e2 e3
    exact r_lo12 M e0 e1 e2 e3 qr (by omega) hok.1 hok.2.2 ok.1.2.1 ok.1.1 (fun _ => g lv h H M fr T s0 e0 e1 e2) (fun _ _ _ _ c => absurd c (by omega))
  | succ r ih =>
    intro lv h H xr h6 qr M fr T s0 L e0 e1 e2 e3
    refine r_lo12 M e0 e1 e2 e3 qr (by omega) hok.1 hok.2.2 ok.1.2.1 ok.1.1 (fun c => absurd c (by omega)) (fun x1 q1 x2 q2 _ => ?_)
    rw [show (((r + 1 : Nat) : Int) - 1).toNat = r by omega, fr hp hx.1 hx.2, ef r (by omega)] at q1
    have er : wk_rs f (6 - r) r = if f r = -1 then wk_rs f (6 - (r + 1)) (r + 1) else (f r, -1) :: wk_rs f (6 - (r + 1)) (r + 1) := by
      rw [show 6 - r = (6 - (r + 1)) + 1 by omega]
      rfl
    by_cases c : f r = -1
    · rw [if_pos c] at er
      refine k_push0 M q1 c ?_
      refine r_lo24 M e0 e1 e2 e3 qr (by omega) (by omega) (fun x3 q3 lv3 a0 a1 a2 a3 => ih lv3 h H x3 (by omega) (by omega) M fr (by rw [er]; exact T) s0 (by rw [er]; omega) a0 a1 a2 a3)
    · rw [if_neg c] at er
      refine k_push M ok q1 q2 c T (by omega) (fun h2 H2 M2 T2 p1 p2 => ?_)
      refine r_lo24 M2 e0 e1 e2 e3 qr (by omega) (by omega) (fun x3 q3 lv3 a0 a1 a2 a3 => ih lv3 h2 H2 x3 (by omega) (by omega) M2 (fun a ha hb => by rw [p1 a ha (hb 5 (by decide)) (hb 6 (by decide))]; exact fr a ha hb) (by rw [er]; exact T2) (by rw [p2 8 (by decide)]; exact s0) (by rw [er]; show (wk_rs f (6 - (r + 1)) (r + 1)).length + 1 ≤ _; omega) a0 a1 a2 a3)
-- what is right below a node goes on the list
theorem l_loC {wa nd hp : Nat} {S : PSt} {v u : Int} {w : Nat} {l : List (Int × Int)} {O : WKt} {H0 : Nat → Nat → Int} {xv xu xw : Int32} (ok : wl_ok h0 wa) (nok : nd_ok h0 nd (ps_n S)) (I : cs_of h0 H0 nd S) (nx : nd ≠ wa ∧ ∀ k, k < 7 → nd ≠ h_r h0 wa k) (cx : h_r h0 nd 0 ≠ wa ∧ ∀ k, k < 7 → h_r h0 nd 0 ≠ h_r h0 wa k) (qv : xv.toInt = v) (qu : xu.toInt = u) (qw : xw.toInt = (w : Int)) (v0 : 0 ≤ v) (v1 : v < (ps_n S : Int)) (sh : ps_sh S) (lim : l.length + (ps_k S v.toNat).toNat < 63) (g : ∀ (lv : List (Nat × Value)) (h' : MH) (H' : Nat → Nat → Int), RX h0 h' H' → wl_fr h0 wa H0 H' → wl_st h0 H' wa (wk_ch S v w (ps_k S v.toNat).toNat ++ l) → wl_of h0 H' wa S O → m_lk lv 0 = some (.ref wa) → m_lk lv 1 = some (.ref nd) → m_lk lv 2 = some (.ref hp) → HJ 74 30 lv [] h' Q) : ∀ (e j : Nat) (lv : List (Nat × Value)) (h : MH) (H : Nat → Nat → Int) (xj : Int32), j + e = (ps_k S v.toNat).toNat → xj.toInt = (e : Int) - 1 → RX h0 h H → wl_fr h0 wa H0 H → wl_st h0 H wa (wk_ch S v w j ++ l) → wl_of h0 H wa S O → m_lk lv 0 = some (.ref wa) → m_lk lv 1 = some (.ref nd) → m_lk lv 2 = some (.ref hp) → m_lk lv 3 = some (.int xv) → m_lk lv 4 = some (.int xu) → m_lk lv 5 = some (.int xw) → m_lk lv 6 = some (.int xj) → HJ 74 157 lv [] h Q := by
  have kv := sh v.toNat (by omega)
  intro e
  induction e with
  | zero =>
    intro j lv h H xj hj qj M fr T P e0 e1 e2 e3 e4 e5 e6
    exact r_lo157 M e0 e1 e2 e3 qv e4 qu e5 qw e6 qj (by omega) nok.1.2 nok.1.1 (fun _ => g lv h H M fr (by rw [← show j = (ps_k S v.toNat).toNat by omega]; exact T) P e0 e1 e2) (fun c => absurd c (by omega))
  | succ e ih =>
    intro j lv h H xj hj qj M fr T P e0 e1 e2 e3 e4 e5 e6
    refine r_lo157 M e0 e1 e2 e3 qv e4 qu e5 qw e6 qj (by omega) nok.1.2 nok.1.1 (fun c => absurd c (by omega)) (fun _ => ?_)
    have J : cs_of h0 H nd S := cs_mv (h1 := h0) I (by rw [fr nd nx.1 nx.2]) (by rw [fr nd nx.1 nx.2]) (fun q _ => by rw [fr _ cx.1 cx.2])
    refine k_ch (r := j) M nok J qv qj v0 v1 (by omega) (by omega) (fun xc qc => ?_)
    obtain ⟨b0, b1, b2⟩ := kv.2 j (by omega)
    refine r_lo170 M e0 e1 e2 e3 qv e4 qu e5 qw e6 qj qc ok.1.2.1 ok.1.1 ?_
    refine k_push M ok qc qw (by omega) T (by rw [List.length_append, wk_chL]; omega) (fun h2 H2 M2 T2 p1 p2 => ?_)
    refine r_lo175 M2 e0 e1 e2 e3 qv e4 qu e5 qw e6 qj (by omega) (by omega) (fun x3 q3 lv3 a0 a1 a2 a3 a4 a5 a6 => ih (j + 1) lv3 h2 H2 x3 (by omega) (by omega) M2 (fun a ha hb => by rw [p1 a ha (hb 5 (by decide)) (hb 6 (by decide))]; exact fr a ha hb) T2 ⟨by rw [p2 8 (by decide)]; exact P.1, fun i hi => ?_⟩ a0 a1 a2 a3 a4 a5 a6)
    have q : ∀ k, k < 5 → H2 (h_r h0 wa k) = H (h_r h0 wa k) := fun k hk => p1 _ (wl_ne ok (by omega)) (ok.2.2 k 5 (by omega) (by decide) (by omega)) (ok.2.2 k 6 (by omega) (by decide) (by omega))
    rw [q 0 (by decide), q 1 (by decide), q 2 (by decide), q 3 (by decide)]
    exact P.2 i hi
theorem l_loM {wa nd hp : Nat} {S : PSt} {W : Nat} {R : WKt} {H0 : Nat → Nat → Int} (ok : wl_ok h0 wa) (nok : nd_ok h0 nd (ps_n S)) (I : cs_of h0 H0 nd S) (nx : nd ≠ wa ∧ ∀ k, k < 7 → nd ≠ h_r h0 wa k) (cx : h_r h0 nd 0 ≠ wa ∧ ∀ k, k < 7 → h_r h0 nd 0 ≠ h_r h0 wa k) (sh : ps_sh S) (hW : W ≤ 63) (g : ∀ (h' : MH) (H' : Nat → Nat → Int), RX h0 h' H' → wl_fr h0 wa H0 H' → wl_of h0 H' wa S R → Q none h') : ∀ (e : Nat) (l : List (Int × Int)) (O : WKt) (lv : List (Nat × Value)) (h : MH) (H : Nat → Nat → Int), O.1 + e = 64 → wk_in S W l O → wk_go S e l O = R → RX h0 h H → wl_fr h0 wa H0 H → wl_st h0 H wa l → wl_of h0 H wa S O → m_lk lv 0 = some (.ref wa) → m_lk lv 1 = some (.ref nd) → m_lk lv 2 = some (.ref hp) → HJ 74 30 lv [] h Q := by
  have wx := fun k hk => wl_ne ok (k := k) hk
  have wy := fun a b ha hb hn => ok.2.2 a b ha hb hn
  obtain ⟨ka0, kb0, -, kc0⟩ := ok.2.1 0 (by decide)
  obtain ⟨ka1, kb1, -, kc1⟩ := ok.2.1 1 (by decide)
  obtain ⟨ka2, kb2, -, kc2⟩ := ok.2.1 2 (by decide)
  obtain ⟨ka3, kb3, -, kc3⟩ := ok.2.1 3 (by decide)
  obtain ⟨ka5, kb5, -, kc5⟩ := ok.2.1 5 (by decide)
  obtain ⟨ka6, kb6, -, kc6⟩ := ok.2.1 6 (by decide)
  intro e
  induction e with
  | zero =>
    intro l O lv h H he J
    exfalso
    have := J.2.2
    omega
  | succ e ih =>
    intro l O lv h H he J er M fr T P e0 e1 e2
    have JL := wq_wL (S := S) l
    have Jw := J.2.2
    have T1 := T.1
    have P1 := P.1
    refine r_lo30 M e0 e1 e2 (by omega) (by omega) (by omega) (wx 0 (by decide)) (wx 1 (by decide)) (wx 2 (by decide)) (wx 3 (by decide)) (wx 5 (by decide)) (wx 6 (by decide)) nx.1 (wy 0 1 (by decide) (by decide) (by decide)) (wy 0 2 (by decide) (by decide) (by decide)) (wy 0 3 (by decide) (by decide) (by decide)) (wy 0 5 (by decide) (by decide) (by decide)) (wy 0 6 (by decide) (by decide) (by decide)) (wy 1 2 (by decide) (by decide) (by decide)) (wy 1 3 (by decide) (by decide) (by decide)) (wy 1 5 (by decide) (by decide) (by decide)) (wy 1 6 (by decide) (by decide) (by decide)) (wy 2 3 (by decide) (by decide) (by decide)) (wy 2 5 (by decide) (by decide) (by decide)) (wy 2 6 (by decide) (by decide) (by decide)) (wy 3 5 (by decide) (by decide) (by decide)) (wy 3 6 (by decide) (by decide) (by decide)) (wy 5 6 (by decide) (by decide) (by decide)) ok.1.1 ka5 kc5 ka6 kc6 ka0 kc0 kb0 nok.1.2 nok.1.1 (fun c => ?_) (fun c1 c2 => ?_) (fun h7 H7 f7 x9 q9 x12 q12 x14 q14 h19 H19 f19 h20 H20 f20 lv15 M20 a0 a1 a2 a3 a4 a5 c1 c2 => ?_)
    · cases l with
      | nil =>
        have er : O = R := er
        rw [← er] at g
        exact g h H M fr P
      | cons q l =>
        exfalso
        have : ((q :: l).length : Int) = (l.length : Int) + 1 := by rw [List.length_cons]; omega
        omega
    · exfalso
      omega
    · cases l with
      | nil =>
        exfalso
        have : (([] : List (Int × Int)).length : Int) = 0 := rfl
        omega
      | cons q l =>
        obtain ⟨v, u⟩ := q
        have ll : ((v, u) :: l).length = l.length + 1 := rfl
        have T2 : (H (h_r h0 wa 5) l.length, H (h_r h0 wa 6) l.length) :: wk_st (H (h_r h0 wa 5)) (H (h_r h0 wa 6)) l.length = (v, u) :: l := T.2
        injection T2 with T3 T4
        injection T3 with T5 T6
        have it : (H wa 9 - 1).toNat = l.length := by omega
        have qv : x9.toInt = v := by rw [q9, it]; exact T5
        have qu : x12.toInt = u := by rw [q12, it]; exact T6
        have qw : x14.toInt = (O.1 : Int) := q14.trans P1
        obtain ⟨⟨v0, v1⟩, hu⟩ := J.2.1 (v, u) (List.mem_cons_self ..)
        have v0 : 0 ≤ v := v0
        have v1 : v < (ps_n S : Int) := v1
        have hu : u = -1 ∨ (0 ≤ u ∧ u < (O.1 : Int) ∧ O.2.2.2 u.toNat + 1 + ps_k S v.toNat ≤ 5) := hu
        have kv := sh v.toNat (by omega)
        have Jw' : 2 ^ (ps_k S v.toNat).toNat + wq_w S l + O.1 = W := Jw
        have JL' := wq_wL (S := S) l
        have two : (ps_k S v.toNat).toNat < 2 ^ (ps_k S v.toNat).toNat := Nat.lt_two_pow_self
        have g20 : ∀ a, a ≠ wa → a ≠ h_r h0 wa 0 → H20 a = H a := fun a h1 h2 => by rw [f20, m_uN _ _ _ _ h2, f19, m_uN _ _ _ _ h1, f7, m_uN _ _ _ _ h1]
        have J20 : cs_of h0 H20 nd S := cs_mv (h1 := h0) I (by rw [g20 nd nx.1 (nx.2 0 (by decide)), fr nd nx.1 nx.2]) (by rw [g20 nd nx.1 (nx.2 0 (by decide)), fr nd nx.1 nx.2]) (fun q _ => by rw [g20 _ cx.1 (cx.2 0 (by decide)), fr _ cx.1 cx.2])
        refine k_wt M20 nok J20 qv v0 v1 (fun xp qp => ?_)
        have rest : ∀ (d : Int) (h21 h22 h23 : MH) (H21 H22 H23 : Nat → Nat → Int), H21 = m_u H20 (h_r h0 wa 1) (m_u (H20 (h_r h0 wa 1)) (O.1 : Int).toNat (128 * ps_y S v.toNat + ps_t S v.toNat)) → H22 = m_u H21 (h_r h0 wa 2) (m_u (H21 (h_r h0 wa 2)) (O.1 : Int).toNat u) → H23 = m_u H22 (h_r h0 wa 3) (m_u (H22 (h_r h0 wa 3)) (O.1 : Int).toNat d) → RX h0 h23 H23 → d = (if u = -1 then 0 else O.2.2.2 u.toNat + 1) → HJ 67 0 (lv_args 0 [.ref nd, .int x9]) [] h23 (fun v h' => HJ 74 153 lv15 (v.toList ++ []) h' Q) := fun d h21 h22 h23 H21 H22 H23 g1 g2 g3 M23 ed => by
          rw [Int.toNat_natCast] at g1 g2 g3
          have g23 : ∀ a, a ≠ wa → a ≠ h_r h0 wa 0 → a ≠ h_r h0 wa 1 → a ≠ h_r h0 wa 2 → a ≠ h_r h0 wa 3 → H23 a = H a := fun a z z0 z1 z2 z3 => by rw [g3, m_uN _ _ _ _ z3, g2, m_uN _ _ _ _ z2, g1, m_uN _ _ _ _ z1, g20 a z z0]
          have J23 : cs_of h0 H23 nd S := cs_mv (h1 := h0) J20 (by rw [g23 nd nx.1 (nx.2 0 (by decide)) (nx.2 1 (by decide)) (nx.2 2 (by decide)) (nx.2 3 (by decide)), g20 nd nx.1 (nx.2 0 (by decide))]) (by rw [g23 nd nx.1 (nx.2 0 (by decide)) (nx.2 1 (by decide)) (nx.2 2 (by decide)) (nx.2 3 (by decide)), g20 nd nx.1 (nx.2 0 (by decide))]) (fun q _ => by rw [g23 _ cx.1 (cx.2 0 (by decide)) (cx.2 1 (by decide)) (cx.2 2 (by decide)) (cx.2 3 (by decide)), g20 _ cx.1 (cx.2 0 (by decide))])
          refine k_rk M23 nok J23 qv v0 v1 (fun xk qk => ?_)
          refine r_lo153 M23 a0 a1 a2 a3 qv a4 qu a5 qw qk kv.1.1 (by omega) (fun x2 q2 lv3 b0 b1 b2 b3 b4 b5 b6 => ?_)
          have z0 : H23 (h_r h0 wa 0) = m_u (H (h_r h0 wa 0)) O.1 v := by
            rw [g3, m_uN _ _ _ _ (wy 0 3 (by decide) (by decide) (by decide)), g2, m_uN _ _ _ _ (wy 0 2 (by decide) (by decide) (by decide)), g1, m_uN _ _ _ _ (wy 0 1 (by decide) (by decide) (by decide)), f20, m_uE, f19, m_uN _ _ _ _ (wx 0 (by decide)), f7, m_uN _ _ _ _ (wx 0 (by decide)), P1, Int.toNat_natCast, it, T5]
          have z1 : H23 (h_r h0 wa 1) = m_u (H (h_r h0 wa 1)) O.1 (128 * ps_y S v.toNat + ps_t S v.toNat) := by
            rw [g3, m_uN _ _ _ _ (wy 1 3 (by decide) (by decide) (by decide)), g2, m_uN _ _ _ _ (wy 1 2 (by decide) (by decide) (by decide)), g1, m_uE, g20 _ (wx 1 (by decide)) (wy 1 0 (by decide) (by decide) (by decide))]
          have z2 : H23 (h_r h0 wa 2) = m_u (H (h_r h0 wa 2)) O.1 u := by
            rw [g3, m_uN _ _ _ _ (wy 2 3 (by decide) (by decide) (by decide)), g2, m_uE, g1, m_uN _ _ _ _ (wy 2 1 (by decide) (by decide) (by decide)), g20 _ (wx 2 (by decide)) (wy 2 0 (by decide) (by decide) (by decide))]
          have z3 : H23 (h_r h0 wa 3) = m_u (H (h_r h0 wa 3)) O.1 d := by
            rw [g3, m_uE, g2, m_uN _ _ _ _ (wy 3 2 (by decide) (by decide) (by decide)), g1, m_uN _ _ _ _ (wy 3 1 (by decide) (by decide) (by decide)), g20 _ (wx 3 (by decide)) (wy 3 0 (by decide) (by decide) (by decide))]
          have z5 : H23 (h_r h0 wa 5) = H (h_r h0 wa 5) := g23 _ (wx 5 (by decide)) (wy 5 0 (by decide) (by decide) (by decide)) (wy 5 1 (by decide) (by decide) (by decide)) (wy 5 2 (by decide) (by decide) (by decide)) (wy 5 3 (by decide) (by decide) (by decide))
          have z6 : H23 (h_r h0 wa 6) = H (h_r h0 wa 6) := g23 _ (wx 6 (by decide)) (wy 6 0 (by decide) (by decide) (by decide)) (wy 6 1 (by decide) (by decide) (by decide)) (wy 6 2 (by decide) (by decide) (by decide)) (wy 6 3 (by decide) (by decide) (by decide))
          have zw : H23 wa = m_u (m_u (H wa) 9 (H wa 9 - 1)) 8 (H wa 8 + 1) := by
            rw [g3, m_uN _ _ _ _ (Ne.symm (wx 3 (by decide))), g2, m_uN _ _ _ _ (Ne.symm (wx 2 (by decide))), g1, m_uN _ _ _ _ (Ne.symm (wx 1 (by decide))), f20, m_uN _ _ _ _ (Ne.symm (wx 0 (by decide))), f19, m_uE, f7, m_uE]
          refine l_loC (O := wk_on v u O) (w := O.1) (l := l) (H0 := H0) ok nok I nx cx qv qu qw v0 v1 sh (by omega) (fun lv4 h4 H4 M4 fr4 T4' P4 c0 c1 c2 => ?_) (ps_k S v.toNat).toNat 0 lv3 h23 H23 x2 (by omega) (by omega) M23 (fun a ha hb => ?_) ⟨?_, ?_⟩ ⟨?_, fun i hi => ?_⟩ b0 b1 b2 b3 b4 b5 b6
          · exact ih (wk_ch S v O.1 (ps_k S v.toNat).toNat ++ l) (wk_on v u O) lv4 h4 H4 (by show O.1 + 1 + e = 64; omega) (wk_onX sh J) er M4 fr4 T4' P4 c0 c1 c2
          · rw [g23 a ha (hb 0 (by decide)) (hb 1 (by decide)) (hb 2 (by decide)) (hb 3 (by decide))]
            exact fr a ha hb
          · rw [zw, m_uN _ _ _ _ (by decide), m_uE]
            show _ = (l.length : Int)
            omega
          · rw [z5, z6]
            exact T4
          · rw [zw, m_uE]
            show _ = ((O.1 + 1 : Nat) : Int)
            omega
          · have hi : i < O.1 + 1 := hi
            rw [z0, z1, z2, z3]
            show m_u (H (h_r h0 wa 0)) O.1 v i = m_u O.2.1 O.1 v i ∧ _ = 128 * ps_y S (m_u O.2.1 O.1 v i).toNat + ps_t S (m_u O.2.1 O.1 v i).toNat ∧ _ = m_u O.2.2.1 O.1 u i ∧ _ = m_u O.2.2.2 O.1 (if u = -1 then 0 else O.2.2.2 u.toNat + 1) i
            by_cases c : i = O.1
            · subst c
              rw [m_uE, m_uE, m_uE, m_uE, m_uE, m_uE, m_uE]
              exact ⟨rfl, rfl, rfl, ed⟩
            · rw [m_uN _ _ _ _ c, m_uN _ _ _ _ c, m_uN _ _ _ _ c, m_uN _ _ _ _ c, m_uN _ _ _ _ c, m_uN _ _ _ _ c, m_uN _ _ _ _ c]
              exact P.2 i (by omega)
        have d20 : u ≠ -1 → H20 (h_r h0 wa 3) u.toNat = O.2.2.2 u.toNat ∧ 0 ≤ O.2.2.2 u.toNat ∧ O.2.2.2 u.toNat ≤ 5 := fun un => by
          obtain ⟨z1, z2, z3⟩ := hu.resolve_left un
          have a := J.1 u.toNat (by omega)
          exact ⟨by rw [g20 _ (wx 3 (by decide)) (wy 3 0 (by decide) (by decide) (by decide))]; exact (P.2 u.toNat (by omega)).2.2.2, a.2.2.1, by have := kv.1.1; omega⟩
        refine r_lo112 M20 a0 a1 a2 a3 qv a4 qu a5 qw qw qp (by omega) (by omega) (by rcases hu with z | z <;> omega) (by rcases hu with z | z <;> omega) (fun un => by have := d20 un; omega) (wx 0 (by decide)) (wx 1 (by decide)) (wx 2 (by decide)) (wx 3 (by decide)) (wx 5 (by decide)) (wx 6 (by decide)) nx.1 (wy 0 1 (by decide) (by decide) (by decide)) (wy 0 2 (by decide) (by decide) (by decide)) (wy 0 3 (by decide) (by decide) (by decide)) (wy 0 5 (by decide) (by decide) (by decide)) (wy 0 6 (by decide) (by decide) (by decide)) (wy 1 2 (by decide) (by decide) (by decide)) (wy 1 3 (by decide) (by decide) (by decide)) (wy 1 5 (by decide) (by decide) (by decide)) (wy 1 6 (by decide) (by decide) (by decide)) (wy 2 3 (by decide) (by decide) (by decide)) (wy 2 5 (by decide) (by decide) (by decide)) (wy 2 6 (by decide) (by decide) (by decide)) (wy 3 5 (by decide) (by decide) (by decide)) (wy 3 6 (by decide) (by decide) (by decide)) (wy 5 6 (by decide) (by decide) (by decide)) ka1 kc1 kb1 ok.1.1 ka2 kc2 kb2 ka3 kc3 kb3 nok.1.2 nok.1.1 (fun h1 H1 f1 h2 H2 f2 h7 H7 f7 M7 c => ?_) (fun h1 H1 f1 h2 H2 f2 h9 H9 f9 M9 c => ?_)
        · exact rest _ h1 h2 h7 H1 H2 H7 f1 f2 f7 M7 (by rw [if_neg c, (d20 c).1])
        · exact rest _ h1 h2 h9 H1 H2 H9 f1 f2 f9 M9 (by rw [if_pos c])
theorem k_look {wa nd hp : Nat} {S : PSt} {f : Nat → Int} (M : RX h0 h H) (ok : wl_ok h0 wa) (nok : nd_ok h0 nd (ps_n S)) (I : cs_of h0 H nd S) (nx : nd ≠ wa ∧ ∀ k, k < 7 → nd ≠ h_r h0 wa k) (cx : h_r h0 nd 0 ≠ wa ∧ ∀ k, k < 7 → h_r h0 nd 0 ≠ h_r h0 wa k) (hok : hp_ok h0 hp) (hx : hp ≠ wa ∧ ∀ k, k < 7 → hp ≠ h_r h0 wa k) (ef : hp6 (H hp) f) (sh : ps_sh S) (hf : hp_in S f) (g : ∀ (h' : MH) (H' : Nat → Nat → Int), RX h0 h' H' → wl_fr h0 wa H H' → wl_of h0 H' wa S (wk_all S f) → Q none h') : HJ 74 0 (lv_args 0 [.ref wa, .ref nd, .ref hp]) [] h Q := by
  have L := p_wsL (f := f) 6
  have e6 : (2 : Nat) ^ 6 = 64 := by decide
  rw [e6] at L
  refine r_lo0 M rfl rfl rfl ok.1.1 (fun h2 H2 f2 h4 H4 f4 x5 q5 lv6 M4 e0 e1 e2 e3 => ?_)
  have fr4 : wl_fr h0 wa H H4 := fun a ha _ => by rw [f4, m_uN _ _ _ _ ha, f2, m_uN _ _ _ _ ha]
  refine l_loR (f := f) ok hok hx ef (fun lv h' H' M' fr T s0 a0 a1 a2 => ?_) 6 lv6 h4 H4 x5 (Nat.le_refl _) q5 M4 fr4 ⟨?_, rfl⟩ ?_ (Nat.le_refl _) e0 e1 e2 e3
  · exact l_loM (R := wk_all S f) (W := p_ws f 6) ok nok I nx cx sh (by omega) g 64 (wk_rs f 6 0) wk_0 lv h' H' rfl (wk_in0 hf) rfl M' fr T ⟨s0, fun i hi => absurd hi (Nat.not_lt_zero i)⟩ a0 a1 a2
  · rw [f4, m_uE, m_uE]
    rfl
  · rw [f4, m_uE, m_uN _ _ _ _ (by decide), f2, m_uE, m_uE]
end
end
section
-- A NODE LOWERED: pure
theorem lw_anP {S : PSt} {O : WKt} {p : Int} (ok : wk_ok S O) (p0 : 0 ≤ p) (p1 : p < (O.1 : Int)) : ∀ j : Nat, (j : Int) ≤ O.2.2.2 p.toNat → 0 ≤ lw_an O p j ∧ lw_an O p j < (O.1 : Int) ∧ O.2.2.2 (lw_an O p j).toNat = O.2.2.2 p.toNat - j
  | 0, _ => ⟨p0, p1, (Int.sub_zero _).symm⟩
  | j + 1, h => by
    obtain ⟨a0, a1, a2⟩ := lw_anP ok p0 p1 j (by omega)
    obtain ⟨-, b, -⟩ := ok (lw_an O p j).toNat (by omega)
    rcases b with ⟨z1, z2⟩ | ⟨z1, z2, z3⟩
    · omega
    · exact ⟨z1, by show O.2.2.1 (lw_an O p j).toNat < _; omega, by show O.2.2.2 (O.2.2.1 (lw_an O p j).toNat).toNat = _; omega⟩
theorem lw_anE {S : PSt} {O : WKt} {p : Int} {n : Nat} (ok : wk_ok S O) (p0 : 0 ≤ p) (p1 : p < (O.1 : Int)) (en : O.2.2.2 p.toNat = (n : Int)) : lw_an O p (n + 1) = -1 := by
  obtain ⟨a0, a1, a2⟩ := lw_anP ok p0 p1 n (by omega)
  obtain ⟨-, b, -⟩ := ok (lw_an O p n).toNat (by omega)
  show O.2.2.1 (lw_an O p n).toNat = -1
  rcases b with ⟨z1, z2⟩ | ⟨z1, z2, z3⟩
  · exact z1
  · exfalso
    have := (ok (O.2.2.1 (lw_an O p n).toNat).toNat (by omega)).2.2.1
    omega
theorem lw_yP {S : PSt} {O : WKt} {p : Int} {n d : Nat} (ok : wk_ok S O) (p0 : 0 ≤ p) (p1 : p < (O.1 : Int)) (en : O.2.2.2 p.toNat = (n : Int)) (hd : d ≤ n) : O.2.1 (lw_an O p (n - d)).toNat = (lw_y O p n d : Int) ∧ lw_y O p n d < ps_n S := by
  obtain ⟨a0, a1, a2⟩ := lw_anP ok p0 p1 (n - d) (by omega)
  obtain ⟨⟨b0, b1⟩, -, -⟩ := ok (lw_an O p (n - d)).toNat (by omega)
  unfold lw_y
  exact ⟨by omega, by omega⟩
theorem lw_riL {S : PSt} {t k : Int} {y : Nat → Nat} : ∀ i, lw_ri S t k y i ≤ i
  | 0 => Nat.le_refl _
  | i + 1 => by
    rw [lw_ri]
    by_cases c : k < ps_y S (y i) ∨ (k = ps_y S (y i) ∧ t < ps_t S (y i))
    · rw [if_pos c]
      exact Nat.le_succ_of_le (lw_riL i)
    · rw [if_neg c]
      exact Nat.le_refl _
theorem lw_mkS {S : PSt} {t k : Int} {y : Nat → Nat} {n e : Nat} {f : Nat → Int} (sh : ps_sh S) (hf : hp_in S f) (hy : ∀ j, j ≤ n → y j < ps_n S) : ps_sh (lw_mk S t k y n e (n + 1)) ∧ hp_in (lw_mk S t k y n e (n + 1)) (m_u f (ps_k S (y 0)).toNat (ps_n S : Int)) ∧ ps_ex S (lw_mk S t k y n e (n + 1)) ∧ ps_n (lw_mk S t k y n e (n + 1)) = ps_n S + (n + 1) := by
  obtain ⟨⟨a1, a2⟩, a3, a4⟩ := lw_mkV (S := S) (t := t) (k := k) (y := y) (n := n) (e := e) (n + 1)
  have ex : ps_ex S (lw_mk S t k y n e (n + 1)) := ⟨by omega, fun v hv => ⟨(a3 v hv).2.2.1, (a3 v hv).1, (a3 v hv).2.1, (a3 v hv).2.2.2⟩⟩
  refine ⟨fun v hv => ?_, fun r hr => ?_, ex, a1⟩
  · rw [a1] at hv ⊢
    by_cases c : v < ps_n S
    · obtain ⟨b1, b2, b3, b4⟩ := a3 v c
      obtain ⟨s1, s2⟩ := sh v c
      refine ⟨by rw [b3]; exact s1, fun r hr => ?_⟩
      rw [b3] at hr
      obtain ⟨c0, c1, c2⟩ := s2 r hr
      rw [b4 r (by omega)]
      exact ⟨c0, by omega, by rw [(a3 _ (by omega)).2.2.1]; exact c2⟩
    · obtain ⟨j, rfl⟩ : ∃ j, v = ps_n S + j := ⟨v - ps_n S, by omega⟩
      obtain ⟨b1, b2, b3, b4⟩ := a4 j (by omega)
      obtain ⟨s1, s2⟩ := sh (y j) (hy j (by omega))
      refine ⟨by rw [b3]; exact s1, fun r hr => ?_⟩
      rw [b3] at hr
      rw [b4 r (by omega)]
      by_cases q : j < n ∧ (r : Int) = ps_k S (y (j + 1))
      · rw [if_pos q, Int.toNat_natCast]
        refine ⟨Int.natCast_nonneg _, by omega, ?_⟩
        rw [show ps_n S + j + 1 = ps_n S + (j + 1) by omega, (a4 (j + 1) (by omega)).2.2.1]
        exact q.2.symm
      · rw [if_neg q]
        obtain ⟨c0, c1, c2⟩ := s2 r hr
        exact ⟨c0, by omega, by rw [(a3 _ (by omega)).2.2.1]; exact c2⟩
  · by_cases c : r = (ps_k S (y 0)).toNat
    · rw [c, m_uE]
      have s1 := (sh (y 0) (hy 0 (by omega))).1
      refine Or.inr ⟨Int.natCast_nonneg _, by omega, ?_⟩
      rw [Int.toNat_natCast]
      have this : ps_k (lw_mk S t k y n e (n + 1)) (ps_n S) = ps_k S (y 0) := (a4 0 (by omega)).2.2.1
      rw [this]
      omega
    · rw [m_uN _ _ _ _ c]
      exact hp_inE ex hf r hr
theorem lw_doI {S : PSt} {f : Nat → Int} {t k : Int} {X : PSt × (Nat → Int)} (sh : ps_sh S) (hf : hp_in S f) (e : lw_do S f t k = some X) : ps_sh X.1 ∧ hp_in X.1 X.2 ∧ ps_ex S X.1 ∧ ps_n X.1 ≤ ps_n S + 6 := by
  obtain ⟨ok, w⟩ := wk_allI sh hf
  by_cases c : lw_f S t k (wk_all S f) (wk_all S f).1 0 = -1
  · rw [lw_do0 c] at e
    cases e
  · obtain ⟨p0, p1, -, -⟩ := lw_fP c
    have p0 : 0 ≤ lw_f S t k (wk_all S f) (wk_all S f).1 0 := by omega
    have p1 : lw_f S t k (wk_all S f) (wk_all S f).1 0 < ((wk_all S f).1 : Int) := by omega
    have D := (ok (lw_f S t k (wk_all S f) (wk_all S f).1 0).toNat (by omega)).2.2
    have kk := (sh _ (show ((wk_all S f).2.1 (lw_f S t k (wk_all S f) (wk_all S f).1 0).toNat).toNat < ps_n S by have := (ok (lw_f S t k (wk_all S f) (wk_all S f).1 0).toNat (by omega)).1; omega)).1
    obtain ⟨n, en⟩ : ∃ n : Nat, (wk_all S f).2.2.2 (lw_f S t k (wk_all S f) (wk_all S f).1 0).toNat = (n : Int) := ⟨((wk_all S f).2.2.2 (lw_f S t k (wk_all S f) (wk_all S f).1 0).toNat).toNat, by omega⟩
    rw [lw_do1 (n := n) rfl c (by rw [en]; exact Int.toNat_natCast n) rfl] at e
    cases e
    obtain ⟨a, b, c', d⟩ := lw_mkS (t := t) (k := k) (e := lw_ri S t k (lw_y (wk_all S f) (lw_f S t k (wk_all S f) (wk_all S f).1 0) n) n) sh hf (fun j hj => (lw_yP ok p0 p1 en hj).2)
    exact ⟨a, b, c', by show ps_n (lw_mk _ _ _ _ _ _ _) ≤ _; omega⟩
-- THE CLASS'S: a node made again
theorem cs_fe {h1 : MH} {H1 : Nat → Nat → Int} {nd : Nat} {S : PSt} {t y k : Int} {f f' : Nat → Int} (I : cs_of h1 H1 nd (ps_mk S t y k f)) (e : ∀ r : Nat, (r : Int) < k → f' r = f r) : cs_of h1 H1 nd (ps_mk S t y k f') := by
  obtain ⟨i1, i2, i3, i4, i5⟩ := I
  refine ⟨i1, i2, i3, i4, fun v hv => ?_⟩
  have hv : v < ps_n S + 1 := hv
  obtain ⟨a1, a2, a3, a4, a5, a6⟩ := i5 v hv
  have k5 : m_u (ps_k S) (ps_n S) k v ≤ 5 := a5.2
  refine ⟨a1, a2, a3, a4, a5, fun r hr => ?_⟩
  have hr : (r : Int) < m_u (ps_k S) (ps_n S) k v := hr
  refine (a6 r hr).trans ?_
  have r5 : r < 6 := by omega
  by_cases c : v = ps_n S
  · subst c
    rw [m_uE] at hr
    rw [ps_mkC r5, ps_mkC r5, e r hr]
  · rw [ps_mkB (by omega), ps_mkB (by omega)]
-- one child of the last node set anew
theorem cs_sc {h1 : MH} {H1 H2 : Nat → Nat → Int} {nd : Nat} {S : PSt} {t y k x : Int} {q : Nat} {f f' : Nat → Int} (I : cs_of h1 H1 nd (ps_mk S t y k f)) (qk : (q : Int) < k) (nC : nd ≠ h_r h1 nd 0) (f2 : H2 = m_u H1 (h_r h1 nd 0) (m_u (H1 (h_r h1 nd 0)) (7 * ps_n S + 2 + (k.toNat - 1 - q)) x)) (e : ∀ r : Nat, (r : Int) < k → f' r = if r = q then x else f r) : cs_of h1 H2 nd (ps_mk S t y k f') := by
  obtain ⟨i1, i2, i3, i4, i5⟩ := I
  have en : H2 nd = H1 nd := by rw [f2, m_uN _ _ _ _ nC]
  refine ⟨by rw [en]; exact i1, by rw [en]; exact i2, i3, i4, fun v hv => ?_⟩
  obtain ⟨a1, a2, a3, a4, a5, a6⟩ := i5 v hv
  have hv : v < ps_n S + 1 := hv
  have k5 : k ≤ 5 := by
    have := (i5 (ps_n S) (Nat.lt_succ_self _)).2.2.2.2.1.2
    have e : ps_k (ps_mk S t y k f) (ps_n S) = k := m_uE _ _ _
    omega
  have hC : ∀ j, j ≠ 7 * ps_n S + 2 + (k.toNat - 1 - q) → H2 (h_r h1 nd 0) j = H1 (h_r h1 nd 0) j := fun j hj => by rw [f2, m_uE, m_uN _ _ _ _ hj]
  have hX : H2 (h_r h1 nd 0) (7 * ps_n S + 2 + (k.toNat - 1 - q)) = x := by rw [f2, m_uE, m_uE]
  by_cases c : v = ps_n S
  · subst c
    have ek : ps_k (ps_mk S t y k f') (ps_n S) = k := m_uE _ _ _
    have ek0 : ps_k (ps_mk S t y k f) (ps_n S) = k := m_uE _ _ _
    refine ⟨by rw [hC _ (by omega)]; exact a1, a2, a3, by rw [hC _ (by omega)]; exact a4, a5, fun r hr => ?_⟩
    rw [ek] at hr ⊢
    rw [ps_mkC (by omega), e r hr]
    by_cases z : r = q
    · rw [if_pos z, z]
      exact hX
    · rw [if_neg z, hC _ (by omega)]
      have := a6 r (by rw [ek0]; exact hr)
      rw [ek0, ps_mkC (by omega)] at this
      exact this
  · have ek : ps_k (ps_mk S t y k f') v = ps_k (ps_mk S t y k f) v := by
      show m_u (ps_k S) (ps_n S) k v = m_u (ps_k S) (ps_n S) k v
      rfl
    refine ⟨by rw [hC _ (by omega)]; exact a1, a2, a3, by rw [hC _ (by omega)]; exact a4, a5, fun r hr => ?_⟩
    have r6 : r < 6 := by rw [ek] at hr; omega
    rw [hC _ (by rw [ek] at hr ⊢; omega), ps_mkB (by omega)]
    have := a6 r hr
    rw [ps_mkB (by omega)] at this
    exact this
section
variable {lv : List (Nat × Value)} {Q : Option Value → MH → Prop} {h0 h : MH} {H : Nat → Nat → Int}
theorem r_rm0 {nd : Nat} {v w : Int} (M : RX h0 h H) (e0 : m_lk lv 0 = some (.ref nd)) {lx1 : Int32} (e1 : m_lk lv 1 = some (.int lx1)) (lq1 : lx1.toInt = v) {lx2 : Int32} (e2 : m_lk lv 2 = some (.int lx2)) (lq2 : lx2.toInt = w)  (hs0 : 16 ≤ nd) (hk0 : (h_k h0 nd).1 = 3)
    (g0 : HJ 67 0 (lv_args 0 [.ref nd, .int lx1]) [] h (fun v h' => HJ 79 5 lv (v.toList ++ []) h' Q))
    : HJ 79 0 lv [] h Q := by
  refine hI_al (k := 0) rfl e0 rfl ?_ -- 0
  refine hI_il (k := 1) rfl e1 rfl ?_ -- 1
  refine HJ.call (j := 67) (as := [.ref nd, .int lx1]) (rr := []) (pc' := 5) (m_cR (kc := 2) rfl rfl (by decide +kernel) rfl rfl rfl ⟨rfl, by decide +kernel, by decide +kernel⟩ (by decide) hs0 (by rw [M.2.1]; exact hk0)) (by show 2 ≤ m_lc 67; decide +kernel) ?_ -- 2
  exact g0 
theorem r_rm5 {nd : Nat} {v w k : Int} (M : RX h0 h H) (e0 : m_lk lv 0 = some (.ref nd)) {lx1 : Int32} (e1 : m_lk lv 1 = some (.int lx1)) (lq1 : lx1.toInt = v) {lx2 : Int32} (e2 : m_lk lv 2 = some (.int lx2)) (lq2 : lx2.toInt = w) {sx0 : Int32} (sq0 : sx0.toInt = k)  (hs0 : 16 ≤ nd) (hk0 : (h_k h0 nd).1 = 3)
    (g0 : ∀ lv1 : List (Nat × Value), m_lk lv1 0 = some (.ref nd) → m_lk lv1 1 = some (.int lx1) → m_lk lv1 2 = some (.int lx2) → m_lk lv1 3 = some (.int sx0) → HJ 61 0 (lv_args 0 [.ref nd, .int lx2, .int sx0]) [] h (fun v h' => HJ 79 12 lv1 (v.toList ++ []) h' Q))
    : HJ 79 5 lv [.int sx0] h Q := by
  refine hM_si (k := 3) rfl (by decide +kernel) rfl (fun lv1 e1_3 u1 => ?_) -- 5
  have e1_0 := u1 0 _ (by decide) (Or.inl rfl) e0
  have e1_1 := u1 1 _ (by decide) (Or.inl rfl) e1
  have e1_2 := u1 2 _ (by decide) (Or.inl rfl) e2
  refine hI_al (k := 0) rfl e1_0 rfl ?_ -- 6
  refine hI_il (k := 2) rfl e1_2 rfl ?_ -- 7
  refine hI_il (k := 3) rfl e1_3 rfl ?_ -- 8
  refine HJ.call (j := 61) (as := [.ref nd, .int lx2, .int sx0]) (rr := []) (pc' := 12) (m_cR (kc := 2) rfl rfl (by decide +kernel) rfl rfl rfl ⟨rfl, by decide +kernel, by decide +kernel⟩ (by decide) hs0 (by rw [M.2.1]; exact hk0)) (by show 3 ≤ m_lc 61; decide +kernel) ?_ -- 9
  exact g0 lv1 e1_0 e1_1 e1_2 e1_3
theorem r_rm12 {nd : Nat} {v w k n : Int} (M : RX h0 h H) (e0 : m_lk lv 0 = some (.ref nd)) {lx1 : Int32} (e1 : m_lk lv 1 = some (.int lx1)) (lq1 : lx1.toInt = v) {lx2 : Int32} (e2 : m_lk lv 2 = some (.int lx2)) (lq2 : lx2.toInt = w) {lx3 : Int32} (e3 : m_lk lv 3 = some (.int lx3)) (lq3 : lx3.toInt = k) {sx0 : Int32} (sq0 : sx0.toInt = n) 
    (g0 : ∀ x2 : Int32, x2.toInt = 0 → ∀ lv3 : List (Nat × Value), m_lk lv3 0 = some (.ref nd) → m_lk lv3 1 = some (.int lx1) → m_lk lv3 2 = some (.int lx2) → m_lk lv3 3 = some (.int lx3) → m_lk lv3 4 = some (.int sx0) → m_lk lv3 5 = some (.int x2) → HJ 79 17 lv3 [] h Q)
    : HJ 79 12 lv [.int sx0] h Q := by
  refine hM_si2 (k := 4) rfl (by decide +kernel) rfl (fun lv1 e1_4 u1 => ?_) -- 12
  have e1_0 := u1 0 _ (by decide) (Or.inl rfl) e0
  have e1_1 := u1 1 _ (by decide) (Or.inl rfl) e1
  have e1_2 := u1 2 _ (by decide) (Or.inl rfl) e2
  have e1_3 := u1 3 _ (by decide) (Or.inl rfl) e3
  refine hM_ic (n := 0) rfl (by decide) rfl (fun x2 q2 => ?_) -- 14
  refine hM_si2 (k := 5) rfl (by decide +kernel) rfl (fun lv3 e3_5 u3 => ?_) -- 15
  have e3_0 := u3 0 _ (by decide) (Or.inl rfl) e1_0
  have e3_1 := u3 1 _ (by decide) (Or.inl rfl) e1_1
  have e3_2 := u3 2 _ (by decide) (Or.inl rfl) e1_2
  have e3_3 := u3 3 _ (by decide) (Or.inl rfl) e1_3
  have e3_4 := u3 4 _ (by decide) (Or.inl rfl) e1_4
  exact g0 x2 q2 lv3 e3_0 e3_1 e3_2 e3_3 e3_4 e3_5
theorem r_rm17 {nd : Nat} {v w k n i : Int} (M : RX h0 h H) (e0 : m_lk lv 0 = some (.ref nd)) {lx1 : Int32} (e1 : m_lk lv 1 = some (.int lx1)) (lq1 : lx1.toInt = v) {lx2 : Int32} (e2 : m_lk lv 2 = some (.int lx2)) (lq2 : lx2.toInt = w) {lx3 : Int32} (e3 : m_lk lv 3 = some (.int lx3)) (lq3 : lx3.toInt = k) {lx4 : Int32} (e4 : m_lk lv 4 = some (.int lx4)) (lq4 : lx4.toInt = n) {lx5 : Int32} (e5 : m_lk lv 5 = some (.int lx5)) (lq5 : lx5.toInt = i)  (hs0 : 16 ≤ nd) (hk0 : (h_k h0 nd).1 = 3)
    (g0 : i ≥ k → Q none h)
    (g1 : i < k → HJ 69 0 (lv_args 0 [.ref nd, .int lx1, .int lx5]) [] h (fun v h' => HJ 79 35 lv (v.toList ++ [.int lx5, .int lx4, .ref nd]) h' Q))
    : HJ 79 17 lv [] h Q := by
  refine hI_il2 (k := 5) rfl e5 rfl ?_ -- 17
  refine hI_il (k := 3) rfl e3 rfl ?_ -- 19
  refine hM_cge (off := 24) (t := 44) rfl lq5 lq3 (by decide) rfl (fun c20 => ?_) (fun c20 => ?_) -- 20
  · refine hI_rv rfl rfl ?_
    exact g0 c20
  · refine hI_al (k := 0) rfl e0 rfl ?_ -- 23
    refine hI_il2 (k := 4) rfl e4 rfl ?_ -- 24
    refine hI_il2 (k := 5) rfl e5 rfl ?_ -- 26
    refine hI_al (k := 0) rfl e0 rfl ?_ -- 28
    refine hI_il (k := 1) rfl e1 rfl ?_ -- 29
    refine hI_il2 (k := 5) rfl e5 rfl ?_ -- 30
    refine HJ.call (j := 69) (as := [.ref nd, .int lx1, .int lx5]) (rr := [.int lx5, .int lx4, .ref nd]) (pc' := 35) (m_cR (kc := 2) rfl rfl (by decide +kernel) rfl rfl rfl ⟨rfl, by decide +kernel, by decide +kernel⟩ (by decide) hs0 (by rw [M.2.1]; exact hk0)) (by show 3 ≤ m_lc 69; decide +kernel) ?_ -- 32
    exact g1 c20
theorem r_rm35 {nd : Nat} {v w k n i n2 i2 c : Int} (M : RX h0 h H) (e0 : m_lk lv 0 = some (.ref nd)) {lx1 : Int32} (e1 : m_lk lv 1 = some (.int lx1)) (lq1 : lx1.toInt = v) {lx2 : Int32} (e2 : m_lk lv 2 = some (.int lx2)) (lq2 : lx2.toInt = w) {lx3 : Int32} (e3 : m_lk lv 3 = some (.int lx3)) (lq3 : lx3.toInt = k) {lx4 : Int32} (e4 : m_lk lv 4 = some (.int lx4)) (lq4 : lx4.toInt = n) {lx5 : Int32} (e5 : m_lk lv 5 = some (.int lx5)) (lq5 : lx5.toInt = i) {sx1 : Int32} (sq1 : sx1.toInt = n2) {sx2 : Int32} (sq2 : sx2.toInt = i2) {sx3 : Int32} (sq3 : sx3.toInt = c)  (hs0 : 16 ≤ nd) (hk0 : (h_k h0 nd).1 = 3)
    (g0 : HJ 68 0 (lv_args 0 [.ref nd, .int sx1, .int sx2, .int sx3]) [] h (fun v h' => HJ 79 38 lv (v.toList ++ []) h' Q))
    : HJ 79 35 lv [.int sx3, .int sx2, .int sx1, .ref nd] h Q := by
  refine HJ.call (j := 68) (as := [.ref nd, .int sx1, .int sx2, .int sx3]) (rr := []) (pc' := 38) (m_cR (kc := 2) rfl rfl (by decide +kernel) rfl rfl rfl ⟨rfl, by decide +kernel, by decide +kernel⟩ (by decide) hs0 (by rw [M.2.1]; exact hk0)) (by show 4 ≤ m_lc 68; decide +kernel) ?_ -- 35
  exact g0 
theorem r_rm38 {nd : Nat} {v w k n i : Int} (M : RX h0 h H) (e0 : m_lk lv 0 = some (.ref nd)) {lx1 : Int32} (e1 : m_lk lv 1 = some (.int lx1)) (lq1 : lx1.toInt = v) {lx2 : Int32} (e2 : m_lk lv 2 = some (.int lx2)) (lq2 : lx2.toInt = w) {lx3 : Int32} (e3 : m_lk lv 3 = some (.int lx3)) (lq3 : lx3.toInt = k) {lx4 : Int32} (e4 : m_lk lv 4 = some (.int lx4)) (lq4 : lx4.toInt = n) {lx5 : Int32} (e5 : m_lk lv 5 = some (.int lx5)) (lq5 : lx5.toInt = i) (pi0 : 0 ≤ i) (pi1 : i ≤ 5)
    (g0 : ∀ x1 : Int32, x1.toInt = i + 1 → ∀ lv1 : List (Nat × Value), m_lk lv1 0 = some (.ref nd) → m_lk lv1 1 = some (.int lx1) → m_lk lv1 2 = some (.int lx2) → m_lk lv1 3 = some (.int lx3) → m_lk lv1 4 = some (.int lx4) → m_lk lv1 5 = some (.int x1) → HJ 79 17 lv1 [] h Q)
    : HJ 79 38 lv [] h Q := by
  refine hM_inc (k := 5) (z := 1) rfl e5 lq5 (by decide) (by omega) (by omega) (by decide +kernel) rfl (fun lv1 x1 q1 e1_5 u1 => ?_) -- 38
  have e1_0 := u1 0 _ (by decide) (Or.inl rfl) e0
  have e1_1 := u1 1 _ (by decide) (Or.inl rfl) e1
  have e1_2 := u1 2 _ (by decide) (Or.inl rfl) e2
  have e1_3 := u1 3 _ (by decide) (Or.inl rfl) e3
  have e1_4 := u1 4 _ (by decide) (Or.inl rfl) e4
  refine hI_go (pc' := 17) (off := (-24)) rfl (by decide) ?_ -- 41
  exact g0 x1 q1 lv1 e1_0 e1_1 e1_2 e1_3 e1_4 e1_5
theorem l_rmC {nd n v k : Nat} {H1 : Nat → Nat → Int} {xv xw xk xn : Int32} (ok : nl_ok h0 nd) (s0 : H1 nd 5 = (n : Int) + 1) (s1 : (n : Int) + 1 ≤ ((h_k h0 (h_r h0 nd 1)).2 : Int)) (n1 : n ≤ 15999) (vn : v < n) (k5 : k ≤ 5) (qv : xv.toInt = (v : Int)) (qk : xk.toInt = (k : Int)) (qn : xn.toInt = (n : Int)) (g : ∀ (h' : MH) (H' : Nat → Nat → Int), RX h0 h' H' → (∀ a, a ≠ h_r h0 nd 0 → H' a = H1 a) → (∀ q, q < 7 * n + 2 → H' (h_r h0 nd 0) q = H1 (h_r h0 nd 0) q) → (∀ q, q < k → H' (h_r h0 nd 0) (7 * n + 2 + q) = H1 (h_r h0 nd 0) (7 * v + 2 + q)) → Q none h') : ∀ (e j : Nat) (lv : List (Nat × Value)) (h : MH) (H : Nat → Nat → Int) (xj : Int32), j + e = k → xj.toInt = (j : Int) → RX h0 h H → (∀ a, a ≠ h_r h0 nd 0 → H a = H1 a) → (∀ q, q < 7 * n + 2 → H (h_r h0 nd 0) q = H1 (h_r h0 nd 0) q) → (∀ q, q < j → H (h_r h0 nd 0) (7 * n + 2 + q) = H1 (h_r h0 nd 0) (7 * v + 2 + q)) → m_lk lv 0 = some (.ref nd) → m_lk lv 1 = some (.int xv) → m_lk lv 2 = some (.int xw) → m_lk lv 3 = some (.int xk) → m_lk lv 4 = some (.int xn) → m_lk lv 5 = some (.int xj) → HJ 79 17 lv [] h Q := by
  obtain ⟨⟨o1, o2, o3⟩, ⟨c1, c16, cl⟩, ⟨d1, d16, dl⟩, l1, ⟨m0, m1⟩, l2, l3⟩ := ok
  have nC : nd ≠ h_r h0 nd 0 := fun z => by rw [← z] at c1; omega
  intro e
  induction e with
  | zero =>
    intro j lv h H xj he hj M p1 p2 p4 e0 e1 e2 e3 e4 e5
    exact r_rm17 M e0 e1 qv e2 rfl e3 qk e4 qn e5 hj o2 o1 (fun _ => g h H M p1 p2 (fun q hq => p4 q (by omega))) (fun c => absurd c (by omega))
  | succ e ih =>
    intro j lv h H xj he hj M p1 p2 p4 e0 e1 e2 e3 e4 e5
    have h5 : H nd 5 = (n : Int) + 1 := by rw [p1 nd nC]; exact s0
    refine r_rm17 M e0 e1 qv e2 rfl e3 qk e4 qn e5 hj o2 o1 (fun c => absurd c (by omega)) (fun _ => ?_)
    refine r_ch M rfl rfl qv rfl hj (by omega) (by omega) o1 c1 (by omega) (fun _ _ _ c => absurd c (by omega)) (fun _ _ _ _ c => absurd c (by omega)) (fun _ _ _ _ _ c => absurd c (by omega)) (fun _ _ _ _ _ _ c => absurd c (by omega)) (fun xc qc _ _ _ _ _ => ?_)
    rw [show ((v : Int) * 7 + 2 + (j : Int)).toNat = 7 * v + 2 + j by omega, p2 _ (by omega)] at qc
    refine r_rm35 M e0 e1 qv e2 rfl e3 qk e4 qn e5 hj (sq1 := qn) (sq2 := hj) (sq3 := qc) o2 o1 ?_
    refine k_sc M ⟨⟨o1, o2⟩, ⟨c1, c16⟩, by omega⟩ (by omega) (by omega) qn hj qc (by omega) (by omega) (by omega) (by omega) (fun h2 H2 f2 M2 => ?_)
    refine r_rm38 M2 e0 e1 qv e2 rfl e3 qk e4 qn e5 hj (by omega) (by omega) (fun x3 q3 lv3 a0 a1 a2 a3 a4 a5 => ?_)
    have ix : 7 * (n : Int).toNat + 2 + (j : Int).toNat = 7 * n + 2 + j := by omega
    rw [ix] at f2
    refine ih (j + 1) lv3 h2 H2 x3 (by omega) (by omega) M2 (fun a ha => by rw [f2, m_uN _ _ _ _ ha]; exact p1 a ha) (fun q hq => by rw [f2, m_uE, m_uN _ _ _ _ (by omega)]; exact p2 q hq) (fun q hq => ?_) a0 a1 a2 a3 a4 a5
    rw [f2, m_uE]
    by_cases z : q = j
    · rw [z, m_uE]
    · rw [m_uN _ _ _ _ (by omega)]
      exact p4 q (by omega)
theorem k_remake {nd : Nat} {S : PSt} {v t y : Int} {xv xw : Int32} (ok : nl_ok h nd) (I : cs_of h (z_i h) nd S) (cap : ps_n S ≤ 15999) (qv : xv.toInt = v) (v0 : 0 ≤ v) (v1 : v < (ps_n S : Int)) (qw : xw.toInt = 128 * y + t) (t0 : 0 ≤ t) (t1 : t ≤ 127) (y0 : 0 ≤ y) (y1 : y ≤ 99) (g : ∀ h' : MH, nl_ok h' nd → cs_of h' (z_i h') nd (ps_mk S t y (ps_k S v.toNat) (fun r => ps_b S (6 * v.toNat + r))) → FX nd (fun _ => False) h h' → Q none h') : HJ 79 0 (lv_args 0 [.ref nd, .int xv, .int xw]) [] h Q := by
  have M := RX.start h
  have i1 : z_i h nd 5 = (ps_n S : Int) := I.1
  have i2 : z_i h nd 6 = ps_l S := I.2.1
  have i3 := I.2.2.1
  obtain ⟨vw, vt, vy, vr, vk, vc⟩ := I.2.2.2.2 v.toNat (by omega)
  have nok := nl_nd ok i1
  refine r_rm0 M rfl rfl qv rfl qw ok.1.2.1 ok.1.1 (k_rk M nok I qv v0 v1 (fun xk qk => ?_))
  refine r_rm5 M rfl rfl qv rfl qw qk ok.1.2.1 ok.1.1 (fun lv1 a0 a1 a2 a3 => ?_)
  refine k_make ok (by omega) qw qk (fun xn h1 qn T => ?_)
  obtain ⟨ok1, F1, t5, tk, tc, tw, tr, tl, tz⟩ := T
  rw [i1] at t5 tc tw tr tl tz qn
  rw [Int.toNat_natCast] at tw tr tz
  have nC : nd ≠ h_r h1 nd 0 := fun z => by have a := ok1.1.1; have b := ok1.2.1.1; rw [← z] at b; omega
  have m1 := ok1.2.2.2.2.1.2
  refine r_rm12 (RX.start h1) a0 a1 qv a2 qw a3 qk qn (fun x3 q3 lv3 d0 d1 d2 d3 d4 d5 => ?_)
  refine l_rmC (n := ps_n S) (v := v.toNat) (k := (ps_k S v.toNat).toNat) (H1 := z_i h1) ok1 t5 (by omega) cap (by omega) (by omega) (by omega) (by omega) qn (fun h4 H4 M4 p1 p2 p4 => ?_) (ps_k S v.toNat).toNat 0 lv3 h1 (z_i h1) x3 (by omega) q3 (RX.start h1) (fun _ _ => rfl) (fun _ _ => rfl) (fun q hq => by omega) d0 d1 d2 d3 d4 d5
  have r4 : h_r h4 nd 0 = h_r h1 nd 0 := by rw [M4.2.2.1.1]
  have C4 : ∀ j, z_i h4 (h_r h4 nd 0) j = H4 (h_r h1 nd 0) j := fun j => by rw [r4, M4.zi]
  refine g h4 (nl_RX ok1 M4 (by rw [p1 nd nC])) (cs_mk (l := ps_l S) (f := fun r => ps_b S (6 * v.toNat + r)) I cap ?_ ?_ (by omega) (by omega) (fun j hj => ?_) t0 t1 y0 y1 vk.1 vk.2 ?_ ?_ (fun r hr => ?_)) (F1.trans (FX.ofRX M4 (by rw [p1 nd nC]) (fun a ha j => ?_)))
  · rw [M4.zi, p1 nd nC]
    exact t5
  · rw [M4.zi, p1 nd nC, tk 6 (by decide)]
    exact i2
  · rw [C4, p2 j (by omega)]
    exact tc j (by omega)
  · rw [C4, p2 _ (by omega)]
    exact tw
  · rw [C4, p2 _ (by omega)]
    exact tr
  · rw [C4, p4 _ (by omega)]
    show z_i h1 (h_r h1 nd 0) _ = ps_b S (6 * v.toNat + r)
    rw [tc _ (by omega)]
    exact vc r hr
  · rw [p1 a (fun z => ha (Or.inr (Or.inl z)))]
-- the first one that is not below
theorem r_fn0 {wa : Nat} {t k : Int} (M : RX h0 h H) (e0 : m_lk lv 0 = some (.ref wa)) {lx1 : Int32} (e1 : m_lk lv 1 = some (.int lx1)) (lq1 : lx1.toInt = t) {lx2 : Int32} (e2 : m_lk lv 2 = some (.int lx2)) (lq2 : lx2.toInt = k) 
    (g0 : ∀ x1 : Int32, x1.toInt = 0 → ∀ lv2 : List (Nat × Value), m_lk lv2 0 = some (.ref wa) → m_lk lv2 1 = some (.int lx1) → m_lk lv2 2 = some (.int lx2) → m_lk lv2 3 = some (.int x1) → HJ 76 2 lv2 [] h Q)
    : HJ 76 0 lv [] h Q := by
  refine hM_ic (n := 0) rfl (by decide) rfl (fun x1 q1 => ?_) -- 0
  refine hM_si (k := 3) rfl (by decide +kernel) rfl (fun lv2 e2_3 u2 => ?_) -- 1
  have e2_0 := u2 0 _ (by decide) (Or.inl rfl) e0
  have e2_1 := u2 1 _ (by decide) (Or.inl rfl) e1
  have e2_2 := u2 2 _ (by decide) (Or.inl rfl) e2
  exact g0 x1 q1 lv2 e2_0 e2_1 e2_2 e2_3
theorem r_fn2 {wa : Nat} {t k i : Int} (M : RX h0 h H) (e0 : m_lk lv 0 = some (.ref wa)) {lx1 : Int32} (e1 : m_lk lv 1 = some (.int lx1)) (lq1 : lx1.toInt = t) {lx2 : Int32} (e2 : m_lk lv 2 = some (.int lx2)) (lq2 : lx2.toInt = k) {lx3 : Int32} (e3 : m_lk lv 3 = some (.int lx3)) (lq3 : lx3.toInt = i) (pi0 : 0 ≤ i) (pw1 : H wa 8 ≤ 63) (hk0 : (h_k h0 wa).1 = 8) (ha0 : (h_k h0 (h_r h0 wa 1)).1 = 20) (hl0 : 63 ≤ ((h_k h0 (h_r h0 wa 1)).2 : Int))
    (g0 : ∀ x2 : Int32, x2.toInt = (-1) → i ≥ H wa 8 → Q (some (.int x2)) h)
    (g1 : ∀ x3 : Int32, x3.toInt = H (h_r h0 wa 1) (i).toNat → i < H wa 8 → HJ 77 0 (lv_args 0 [.int x3]) [] h (fun v h' => HJ 76 19 lv (v.toList ++ []) h' Q))
    : HJ 76 2 lv [] h Q := by
  refine hI_il (k := 3) rfl e3 rfl ?_ -- 2
  refine hI_al (k := 0) rfl e0 rfl ?_ -- 3
  refine hR_gi (c := 7) (k := 8) M hk0 rfl rfl rfl rfl (fun x1 q1 => ?_) -- 4
  have gb1 : -2147483648 ≤ H wa 8 ∧ H wa 8 ≤ 2147483647 := by rw [← q1]; exact g_iT _
  refine hM_cge (off := 37) (t := 44) rfl lq3 q1 (by decide) rfl (fun c7 => ?_) (fun c7 => ?_) -- 7
  · refine hM_ic (n := (-1)) rfl (by decide) rfl (fun x2 q2 => ?_) -- 44
    refine hI_ri rfl rfl ?_ -- 45
    exact g0 x2 q2 c7
  · refine hI_al (k := 0) rfl e0 rfl ?_ -- 10
    refine hR_gr (c := 7) (k := 1) M hk0 rfl rfl rfl rfl ?_ -- 11
    refine hI_il (k := 3) rfl e3 rfl ?_ -- 14
    refine hR_ia M ha0 lq3 (by omega) (by omega) rfl rfl (fun x3 q3 => ?_) -- 15
    have gb3 : -2147483648 ≤ H (h_r h0 wa 1) (i).toNat ∧ H (h_r h0 wa 1) (i).toNat ≤ 2147483647 := by rw [← q3]; exact g_iT _
    refine hM_is0 (as := [.int x3]) (r := []) rfl rfl (by decide +kernel) rfl rfl rfl rfl rfl ?_ -- 16
    exact g1 x3 q3 c7
theorem r_fn19 {wa : Nat} {t k i z : Int} (M : RX h0 h H) (e0 : m_lk lv 0 = some (.ref wa)) {lx1 : Int32} (e1 : m_lk lv 1 = some (.int lx1)) (lq1 : lx1.toInt = t) {lx2 : Int32} (e2 : m_lk lv 2 = some (.int lx2)) (lq2 : lx2.toInt = k) {lx3 : Int32} (e3 : m_lk lv 3 = some (.int lx3)) (lq3 : lx3.toInt = i) {sx0 : Int32} (sq0 : sx0.toInt = z) (pi0 : 0 ≤ i) (pi1 : i < 63) (hk0 : (h_k h0 wa).1 = 8) (ha0 : (h_k h0 (h_r h0 wa 1)).1 = 20) (hl0 : 63 ≤ ((h_k h0 (h_r h0 wa 1)).2 : Int))
    (g0 : z ≠ t → HJ 76 38 lv [] h Q)
    (g1 : ∀ x1 : Int32, x1.toInt = H (h_r h0 wa 1) (i).toNat → z = t → HJ 78 0 (lv_args 0 [.int x1]) [] h (fun v h' => HJ 76 32 lv (v.toList ++ []) h' Q))
    : HJ 76 19 lv [.int sx0] h Q := by
  refine hI_il (k := 1) rfl e1 rfl ?_ -- 19
  refine hM_cne (off := 18) (t := 38) rfl sq0 lq1 (by decide) rfl (fun c20 => ?_) (fun c20 => ?_) -- 20
  · exact g0 c20
  · refine hI_al (k := 0) rfl e0 rfl ?_ -- 23
    refine hR_gr (c := 7) (k := 1) M hk0 rfl rfl rfl rfl ?_ -- 24
    refine hI_il (k := 3) rfl e3 rfl ?_ -- 27
    refine hR_ia M ha0 lq3 (by omega) (by omega) rfl rfl (fun x1 q1 => ?_) -- 28
    have gb1 : -2147483648 ≤ H (h_r h0 wa 1) (i).toNat ∧ H (h_r h0 wa 1) (i).toNat ≤ 2147483647 := by rw [← q1]; exact g_iT _
    refine hM_is0 (as := [.int x1]) (r := []) rfl rfl (by decide +kernel) rfl rfl rfl rfl rfl ?_ -- 29
    exact g1 x1 q1 c20
theorem r_fn32 {wa : Nat} {t k i z : Int} (M : RX h0 h H) (e0 : m_lk lv 0 = some (.ref wa)) {lx1 : Int32} (e1 : m_lk lv 1 = some (.int lx1)) (lq1 : lx1.toInt = t) {lx2 : Int32} (e2 : m_lk lv 2 = some (.int lx2)) (lq2 : lx2.toInt = k) {lx3 : Int32} (e3 : m_lk lv 3 = some (.int lx3)) (lq3 : lx3.toInt = i) {sx0 : Int32} (sq0 : sx0.toInt = z) 
    (g0 : z < k → HJ 76 38 lv [] h Q)
    (g1 : z ≥ k → Q (some (.int lx3)) h)
    : HJ 76 32 lv [.int sx0] h Q := by
  refine hI_il (k := 2) rfl e2 rfl ?_ -- 32
  refine hM_clt (off := 5) (t := 38) rfl sq0 lq2 (by decide) rfl (fun c33 => ?_) (fun c33 => ?_) -- 33
  · exact g0 c33
  · refine hI_il (k := 3) rfl e3 rfl ?_ -- 36
    refine hI_ri rfl rfl ?_ -- 37
    exact g1 c33
theorem r_fn38 {wa : Nat} {t k i : Int} (M : RX h0 h H) (e0 : m_lk lv 0 = some (.ref wa)) {lx1 : Int32} (e1 : m_lk lv 1 = some (.int lx1)) (lq1 : lx1.toInt = t) {lx2 : Int32} (e2 : m_lk lv 2 = some (.int lx2)) (lq2 : lx2.toInt = k) {lx3 : Int32} (e3 : m_lk lv 3 = some (.int lx3)) (lq3 : lx3.toInt = i) (pi0 : 0 ≤ i) (pi1 : i < 63)
    (g0 : ∀ x1 : Int32, x1.toInt = i + 1 → ∀ lv1 : List (Nat × Value), m_lk lv1 0 = some (.ref wa) → m_lk lv1 1 = some (.int lx1) → m_lk lv1 2 = some (.int lx2) → m_lk lv1 3 = some (.int x1) → HJ 76 2 lv1 [] h Q)
    : HJ 76 38 lv [] h Q := by
  refine hM_inc (k := 3) (z := 1) rfl e3 lq3 (by decide) (by omega) (by omega) (by decide +kernel) rfl (fun lv1 x1 q1 e1_3 u1 => ?_) -- 38
  have e1_0 := u1 0 _ (by decide) (Or.inl rfl) e0
  have e1_1 := u1 1 _ (by decide) (Or.inl rfl) e1
  have e1_2 := u1 2 _ (by decide) (Or.inl rfl) e2
  refine hI_go (pc' := 2) (off := (-39)) rfl (by decide) ?_ -- 41
  exact g0 x1 q1 lv1 e1_0 e1_1 e1_2 e1_3
theorem l_fn {wa : Nat} {S : PSt} {O : WKt} {t k : Int} {xt xk : Int32} (M : RX h0 h H) (ok : wl_ok h0 wa) (P : wl_of h0 H wa S O) (R : ∀ i, i < O.1 → (0 ≤ ps_t S (O.2.1 i).toNat ∧ ps_t S (O.2.1 i).toNat ≤ 127) ∧ 0 ≤ ps_y S (O.2.1 i).toNat) (w63 : O.1 ≤ 63) (qt : xt.toInt = t) (qk : xk.toInt = k) (g : ∀ x : Int32, x.toInt = lw_f S t k O O.1 0 → Q (some (.int x)) h) : ∀ (d i : Nat) (lv : List (Nat × Value)) (xi : Int32), i + d = O.1 → xi.toInt = (i : Int) → lw_f S t k O O.1 0 = lw_f S t k O d i → m_lk lv 0 = some (.ref wa) → m_lk lv 1 = some (.int xt) → m_lk lv 2 = some (.int xk) → m_lk lv 3 = some (.int xi) → HJ 76 2 lv [] h Q := by
  obtain ⟨P1, P2⟩ := P
  obtain ⟨k1, -, -, l1⟩ := ok.2.1 1 (by decide)
  intro d
  induction d with
  | zero =>
    intro i lv xi hd qi e e0 e1 e2 e3
    exact r_fn2 M e0 e1 qt e2 qk e3 qi (by omega) (by omega) ok.1.1 k1 l1 (fun x2 q2 _ => g x2 (by rw [e]; exact q2)) (fun _ _ c => absurd c (by omega))
  | succ d ih =>
    intro i lv xi hd qi e e0 e1 e2 e3
    obtain ⟨-, pw, -, -⟩ := P2 i (by omega)
    obtain ⟨⟨t0, t1⟩, y0⟩ := R i (by omega)
    have nxt : ¬ (ps_t S (O.2.1 i).toNat = t ∧ k ≤ ps_y S (O.2.1 i).toNat) → HJ 76 38 lv [] h Q := fun c => r_fn38 M e0 e1 qt e2 qk e3 qi (by omega) (by omega) (fun x1 q1 lv1 a0 a1 a2 a3 => ih (i + 1) lv1 x1 (by omega) (by omega) (by rw [e, lw_f, if_neg c]) a0 a1 a2 a3)
    refine r_fn2 M e0 e1 qt e2 qk e3 qi (by omega) (by omega) ok.1.1 k1 l1 (fun _ _ c => absurd c (by omega)) (fun x3 q3 _ => ?_)
    rw [Int.toNat_natCast, pw] at q3
    refine k_thIn q3 t0 t1 y0 (fun w qw => ?_)
    refine r_fn19 M e0 e1 qt e2 qk e3 qi qw (by omega) (by omega) ok.1.1 k1 l1 (fun c => nxt (fun z => c z.1)) (fun x1 q1 c => ?_)
    rw [Int.toNat_natCast, pw] at q1
    refine k_keyIn q1 t0 t1 y0 (fun w2 qw2 => ?_)
    refine r_fn32 M e0 e1 qt e2 qk e3 qi qw2 (fun c2 => nxt (fun z => by omega)) (fun c2 => g xi ?_)
    rw [e, lw_f, if_pos ⟨c, by omega⟩]
    exact qi
theorem k_fnb {wa : Nat} {S : PSt} {O : WKt} {t k : Int} {xt xk : Int32} (M : RX h0 h H) (ok : wl_ok h0 wa) (P : wl_of h0 H wa S O) (R : ∀ i, i < O.1 → (0 ≤ ps_t S (O.2.1 i).toNat ∧ ps_t S (O.2.1 i).toNat ≤ 127) ∧ 0 ≤ ps_y S (O.2.1 i).toNat) (w63 : O.1 ≤ 63) (qt : xt.toInt = t) (qk : xk.toInt = k) (g : ∀ x : Int32, x.toInt = lw_f S t k O O.1 0 → Q (some (.int x)) h) : HJ 76 0 (lv_args 0 [.ref wa, .int xt, .int xk]) [] h Q := by
  refine r_fn0 M rfl rfl qt rfl qk (fun x1 q1 lv2 e0 e1 e2 e3 => ?_)
  exact l_fn M ok P R w63 qt qk g O.1 0 lv2 x1 (by omega) q1 rfl e0 e1 e2 e3
end
end
section
-- LOWER, THE CLASS'S: the rows of a Nodes and a heap's, apart
def nx_ok (h : MH) (nd : Nat) : Prop := nl_ok h nd ∧ (ap_ok h nd (h_r h nd 2) ∧ (h_k h (h_r h nd 2)).2 ≤ 1000000) ∧ ap_ok h nd (h_r h nd 3) ∧ h_r h nd 2 ≠ h_r h nd 3 ∧ wl_ok h (h_r h nd 4) ∧ ∀ k, k < 7 → h_r h (h_r h nd 4) k ≠ h_r h nd 0 ∧ h_r h (h_r h nd 4) k ≠ h_r h nd 2 ∧ h_r h (h_r h nd 4) k ≠ h_r h nd 3
def hx_ok (h : MH) (nd hp : Nat) : Prop := ap_ok h nd hp ∧ hp ≠ h_r h nd 2 ∧ hp ≠ h_r h nd 3 ∧ ∀ k, k < 7 → hp ≠ h_r h (h_r h nd 4) k
-- what a lowering changes, a node, a heap and the store aside
def lw_Y (h : MH) (nd hp a : Nat) : Prop := a = hp ∨ a = h_r h nd 3 ∨ a = h_r h nd 4 ∨ ∃ k, k < 7 ∧ a = h_r h (h_r h nd 4) k
theorem nx_r {h h' : MH} {nd : Nat} {Y : Nat → Prop} (ok : nx_ok h nd) (F : FX nd Y h h') : h_r h' nd 2 = h_r h nd 2 ∧ h_r h' nd 3 = h_r h nd 3 ∧ h_r h' nd 4 = h_r h nd 4 ∧ ∀ k, h_r h' (h_r h nd 4) k = h_r h (h_r h nd 4) k := by
  have n3 := (F.2.2 nd ok.1.1.2.2).2.1
  have w := ok.2.2.2.2.1
  have wn : h_r h nd 4 ≠ nd := fun z => by
    have a := w.1.1
    rw [z, ok.1.1.1] at a
    omega
  exact ⟨n3 2 (by omega), n3 3 (by omega), n3 4 (by omega), fun k => (F.2.2 _ w.1.2.2).2.1 k (fun z => wn z.1)⟩
theorem wl_FX {h h' : MH} {nd wa : Nat} {Y : Nat → Prop} (ok : wl_ok h wa) (wn : wa ≠ nd) (F : FX nd Y h h') : wl_ok h' wa := by
  obtain ⟨⟨a1, a2, a3⟩, b, c⟩ := ok
  have f := F.2.2 wa a3
  have r : ∀ k, h_r h' wa k = h_r h wa k := fun k => f.2.1 k (fun z => wn z.1)
  have n := F.1
  refine ⟨⟨by rw [f.1]; exact a1, a2, by omega⟩, fun k hk => ?_, fun a b' ha hb hn => by rw [r, r]; exact c a b' ha hb hn⟩
  obtain ⟨b1, b2, b3, b4⟩ := b k hk
  rw [r, (F.2.2 _ b3).1]
  exact ⟨b1, b2, by omega, b4⟩
theorem nx_tr {h : MH} {nd : Nat} (ok : nx_ok h nd) : h_r h nd 4 ≠ nd ∧ h_r h nd 4 ≠ h_r h nd 0 ∧ h_r h nd 4 ≠ h_r h nd 3 ∧ h_r h nd 4 ≠ h_r h nd 2 := by
  have a := ok.2.2.2.2.1.1.1
  refine ⟨fun z => ?_, fun z => ?_, fun z => ?_, fun z => ?_⟩
  · rw [z, ok.1.1.1] at a
    omega
  · rw [z, ok.1.2.1.1] at a
    omega
  · rw [z, ok.2.2.1.1.1] at a
    omega
  · rw [z, ok.2.1.1.1.1] at a
    omega
theorem nx_FX {h h' : MH} {nd : Nat} {Y : Nat → Prop} (ok : nx_ok h nd) (o' : nl_ok h' nd) (F : FX nd Y h h') : nx_ok h' nd := by
  obtain ⟨r2, r3, r4, rw_⟩ := nx_r ok F
  have wn := (nx_tr ok).1
  obtain ⟨a, ⟨b, b2⟩, c, d, w, e⟩ := ok
  unfold nx_ok
  rw [r2, r3, r4]
  refine ⟨o', ⟨ap_FX b F, by rw [(F.2.2 _ b.2.1).1]; exact b2⟩, ap_FX c F, d, wl_FX w wn F, fun k hk => ?_⟩
  rw [rw_]
  obtain ⟨e1, e2, e3⟩ := e k hk
  have l := (w.2.1 k hk).2.2.1
  refine ⟨fun z => ?_, e2, e3⟩
  rcases F.2.1.1 0 (by decide) with f | f
  · exact e1 (z.trans f)
  · omega
theorem hx_FX {h h' : MH} {nd hp : Nat} {Y : Nat → Prop} (ok : nx_ok h nd) (hx : hx_ok h nd hp) (F : FX nd Y h h') : hx_ok h' nd hp := by
  obtain ⟨r2, r3, r4, rw_⟩ := nx_r ok F
  unfold hx_ok
  rw [r2, r3, r4]
  exact ⟨ap_FX hx.1 F, hx.2.1, hx.2.2.1, fun k hk => by rw [rw_]; exact hx.2.2.2 k hk⟩
section
variable {lv : List (Nat × Value)} {Q : Option Value → MH → Prop} {h0 h : MH} {H : Nat → Nat → Int}
theorem r_lw0 {nd hp : Nat} {t k : Int} (M : RX h0 h H) (e0 : m_lk lv 0 = some (.ref nd)) (e1 : m_lk lv 1 = some (.ref hp)) {lx2 : Int32} (e2 : m_lk lv 2 = some (.int lx2)) (lq2 : lx2.toInt = t) {lx3 : Int32} (e3 : m_lk lv 3 = some (.int lx3)) (lq3 : lx3.toInt = k)  (hk0 : (h_k h0 nd).1 = 3) (hs0 : 16 ≤ h_r h0 nd 4) (hk1 : (h_k h0 (h_r h0 nd 4)).1 = 8)
    (g0 : HJ 74 0 (lv_args 0 [.ref (h_r h0 nd 4), .ref nd, .ref hp]) [] h (fun v h' => HJ 73 9 lv (v.toList ++ []) h' Q))
    : HJ 73 0 lv [] h Q := by
  refine hI_al (k := 0) rfl e0 rfl ?_ -- 0
  refine hR_gr (c := 2) (k := 4) M hk0 rfl rfl rfl rfl ?_ -- 1
  refine hI_al (k := 0) rfl e0 rfl ?_ -- 4
  refine hI_al (k := 1) rfl e1 rfl ?_ -- 5
  refine HJ.call (j := 74) (as := [.ref (h_r h0 nd 4), .ref nd, .ref hp]) (rr := []) (pc' := 9) (m_cR (kc := 7) rfl rfl (by decide +kernel) rfl rfl rfl ⟨rfl, by decide +kernel, by decide +kernel⟩ (by decide) hs0 (by rw [M.2.1]; exact hk1)) (by show 3 ≤ m_lc 74; decide +kernel) ?_ -- 6
  exact g0 
theorem r_lw9 {nd hp : Nat} {t k : Int} (M : RX h0 h H) (e0 : m_lk lv 0 = some (.ref nd)) (e1 : m_lk lv 1 = some (.ref hp)) {lx2 : Int32} (e2 : m_lk lv 2 = some (.int lx2)) (lq2 : lx2.toInt = t) {lx3 : Int32} (e3 : m_lk lv 3 = some (.int lx3)) (lq3 : lx3.toInt = k)  (hk0 : (h_k h0 nd).1 = 3) (hs0 : 16 ≤ h_r h0 nd 4) (hk1 : (h_k h0 (h_r h0 nd 4)).1 = 8)
    (g0 : HJ 76 0 (lv_args 0 [.ref (h_r h0 nd 4), .int lx2, .int lx3]) [] h (fun v h' => HJ 73 18 lv (v.toList ++ []) h' Q))
    : HJ 73 9 lv [] h Q := by
  refine hI_al (k := 0) rfl e0 rfl ?_ -- 9
  refine hR_gr (c := 2) (k := 4) M hk0 rfl rfl rfl rfl ?_ -- 10
  refine hI_il (k := 2) rfl e2 rfl ?_ -- 13
  refine hI_il (k := 3) rfl e3 rfl ?_ -- 14
  refine HJ.call (j := 76) (as := [.ref (h_r h0 nd 4), .int lx2, .int lx3]) (rr := []) (pc' := 18) (m_cR (kc := 7) rfl rfl (by decide +kernel) rfl rfl rfl ⟨rfl, by decide +kernel, by decide +kernel⟩ (by decide) hs0 (by rw [M.2.1]; exact hk1)) (by show 3 ≤ m_lc 76; decide +kernel) ?_ -- 15
  exact g0 
theorem r_lw18 {nd hp : Nat} {t k p : Int} (M : RX h0 h H) (e0 : m_lk lv 0 = some (.ref nd)) (e1 : m_lk lv 1 = some (.ref hp)) {lx2 : Int32} (e2 : m_lk lv 2 = some (.int lx2)) (lq2 : lx2.toInt = t) {lx3 : Int32} (e3 : m_lk lv 3 = some (.int lx3)) (lq3 : lx3.toInt = k) {sx0 : Int32} (sq0 : sx0.toInt = p) (pp0 : -1 ≤ p) (pp1 : p < 63) (hk0 : (h_k h0 nd).1 = 3) (hk1 : (h_k h0 (h_r h0 nd 4)).1 = 8) (ha0 : (h_k h0 (h_r h0 (h_r h0 nd 4) 3)).1 = 20) (hl0 : 63 ≤ ((h_k h0 (h_r h0 (h_r h0 nd 4) 3)).2 : Int))
    (g0 : ∀ x5 : Int32, x5.toInt = 0 → ∀ lv4 : List (Nat × Value), p ≠ (-1) → H (h_r h0 (h_r h0 nd 4) 3) (p).toNat < 0 → Q (some (.int x5)) h)
    (g1 : ∀ x3 : Int32, x3.toInt = H (h_r h0 (h_r h0 nd 4) 3) (p).toNat → ∀ lv7 : List (Nat × Value), m_lk lv7 0 = some (.ref nd) → m_lk lv7 1 = some (.ref hp) → m_lk lv7 2 = some (.int lx2) → m_lk lv7 3 = some (.int lx3) → m_lk lv7 4 = some (.int sx0) → m_lk lv7 5 = some (.int x3) → m_lk lv7 6 = some (.int x3) → p ≠ (-1) → H (h_r h0 (h_r h0 nd 4) 3) (p).toNat ≥ 0 → H (h_r h0 (h_r h0 nd 4) 3) (p).toNat < 6 → HJ 73 60 lv7 [] h Q)
    (g2 : ∀ x8 : Int32, x8.toInt = 0 → ∀ lv4 : List (Nat × Value), p ≠ (-1) → H (h_r h0 (h_r h0 nd 4) 3) (p).toNat ≥ 0 → H (h_r h0 (h_r h0 nd 4) 3) (p).toNat ≥ 6 → Q (some (.int x8)) h)
    (g3 : ∀ x11 : Int32, x11.toInt = 0 → ∀ lv10 : List (Nat × Value), p = (-1) → Q (some (.int x11)) h)
    : HJ 73 18 lv [.int sx0] h Q := by
  refine hM_si2 (k := 4) rfl (by decide +kernel) rfl (fun lv1 e1_4 u1 => ?_) -- 18
  have e1_0 := u1 0 _ (by decide) (Or.inl rfl) e0
  have e1_1 := u1 1 _ (by decide) (Or.inl rfl) e1
  have e1_2 := u1 2 _ (by decide) (Or.inl rfl) e2
  have e1_3 := u1 3 _ (by decide) (Or.inl rfl) e3
  refine hI_il2 (k := 4) rfl e1_4 rfl ?_ -- 20
  refine hM_ic (n := (-1)) rfl (by decide) rfl (fun x2 q2 => ?_) -- 22
  refine hM_cne (off := 7) (t := 30) rfl sq0 q2 (by decide) rfl (fun c23 => ?_) (fun c23 => ?_) -- 23
  · refine hI_al (k := 0) rfl e1_0 rfl ?_ -- 30
    refine hR_gr (c := 2) (k := 4) M hk0 rfl rfl rfl rfl ?_ -- 31
    refine hR_gr (c := 7) (k := 3) M hk1 rfl rfl rfl rfl ?_ -- 34
    refine hI_il2 (k := 4) rfl e1_4 rfl ?_ -- 37
    refine hR_ia M ha0 sq0 (by omega) (by omega) rfl rfl (fun x3 q3 => ?_) -- 39
    have gb3 : -2147483648 ≤ H (h_r h0 (h_r h0 nd 4) 3) (p).toNat ∧ H (h_r h0 (h_r h0 nd 4) 3) (p).toNat ≤ 2147483647 := by rw [← q3]; exact g_iT _
    refine hM_si2 (k := 5) rfl (by decide +kernel) rfl (fun lv4 e4_5 u4 => ?_) -- 40
    have e4_0 := u4 0 _ (by decide) (Or.inl rfl) e1_0
    have e4_1 := u4 1 _ (by decide) (Or.inl rfl) e1_1
    have e4_2 := u4 2 _ (by decide) (Or.inl rfl) e1_2
    have e4_3 := u4 3 _ (by decide) (Or.inl rfl) e1_3
    have e4_4 := u4 4 _ (by decide) (Or.inl rfl) e1_4
    refine hI_il2 (k := 5) rfl e4_5 rfl ?_ -- 42
    refine hM_zlt (off := 10) (t := 54) rfl q3 (by decide) rfl (fun c44 => ?_) (fun c44 => ?_) -- 44
    · refine hM_ic (n := 0) rfl (by decide) rfl (fun x5 q5 => ?_) -- 54
      refine hM_rb rfl rfl q5 (by omega) (by omega) ?_ -- 55
      exact g0 x5 q5 lv4 c23 c44
    · refine hI_il2 (k := 5) rfl e4_5 rfl ?_ -- 47
      refine hM_bp (n := 6) rfl (by decide) rfl (fun x6 q6 => ?_) -- 49
      refine hM_clt (off := 5) (t := 56) rfl q3 q6 (by decide) rfl (fun c51 => ?_) (fun c51 => ?_) -- 51
      · refine hI_il2 (k := 5) rfl e4_5 rfl ?_ -- 56
        refine hM_si2 (k := 6) rfl (by decide +kernel) rfl (fun lv7 e7_6 u7 => ?_) -- 58
        have e7_0 := u7 0 _ (by decide) (Or.inl rfl) e4_0
        have e7_1 := u7 1 _ (by decide) (Or.inl rfl) e4_1
        have e7_2 := u7 2 _ (by decide) (Or.inl rfl) e4_2
        have e7_3 := u7 3 _ (by decide) (Or.inl rfl) e4_3
        have e7_4 := u7 4 _ (by decide) (Or.inl rfl) e4_4
        have e7_5 := u7 5 _ (by decide) (Or.inl rfl) e4_5
        exact g1 x3 q3 lv7 e7_0 e7_1 e7_2 e7_3 e7_4 e7_5 e7_6 c23 c44 c51
      · refine hM_ic (n := 0) rfl (by decide) rfl (fun x8 q8 => ?_) -- 54
        refine hM_rb rfl rfl q8 (by omega) (by omega) ?_ -- 55
        exact g2 x8 q8 lv4 c23 c44 c51
  · refine hM_ic (n := (-1)) rfl (by decide) rfl (fun x9 q9 => ?_) -- 26
    refine hI_go (pc' := 40) (off := 13) rfl (by decide) ?_ -- 27
    refine hM_si2 (k := 5) rfl (by decide +kernel) rfl (fun lv10 e10_5 u10 => ?_) -- 40
    have e10_0 := u10 0 _ (by decide) (Or.inl rfl) e1_0
    have e10_1 := u10 1 _ (by decide) (Or.inl rfl) e1_1
    have e10_2 := u10 2 _ (by decide) (Or.inl rfl) e1_2
    have e10_3 := u10 3 _ (by decide) (Or.inl rfl) e1_3
    have e10_4 := u10 4 _ (by decide) (Or.inl rfl) e1_4
    refine hI_il2 (k := 5) rfl e10_5 rfl ?_ -- 42
    refine hM_zlt (off := 10) (t := 54) rfl q9 (by decide) rfl (fun c44 => ?_) (fun c44 => ?_) -- 44
    · refine hM_ic (n := 0) rfl (by decide) rfl (fun x11 q11 => ?_) -- 54
      refine hM_rb rfl rfl q11 (by omega) (by omega) ?_ -- 55
      exact g3 x11 q11 lv10 c23
    · exfalso; omega
theorem r_lw60 {nd hp : Nat} {t k p n d : Int} (M : RX h0 h H) (e0 : m_lk lv 0 = some (.ref nd)) (e1 : m_lk lv 1 = some (.ref hp)) {lx2 : Int32} (e2 : m_lk lv 2 = some (.int lx2)) (lq2 : lx2.toInt = t) {lx3 : Int32} (e3 : m_lk lv 3 = some (.int lx3)) (lq3 : lx3.toInt = k) {lx4 : Int32} (e4 : m_lk lv 4 = some (.int lx4)) (lq4 : lx4.toInt = p) {lx5 : Int32} (e5 : m_lk lv 5 = some (.int lx5)) (lq5 : lx5.toInt = n) {lx6 : Int32} (e6 : m_lk lv 6 = some (.int lx6)) (lq6 : lx6.toInt = d) (pd1 : d ≤ 5) (pp0 : -1 ≤ p) (pp1 : p < 63) (px0 : h_r h0 (h_r h0 nd 4) 2 ≠ h_r h0 nd 3) (hk0 : (h_k h0 nd).1 = 3) (hk1 : (h_k h0 (h_r h0 nd 4)).1 = 8) (ha0 : (h_k h0 (h_r h0 (h_r h0 nd 4) 0)).1 = 20) (hl0 : 63 ≤ ((h_k h0 (h_r h0 (h_r h0 nd 4) 0)).2 : Int)) (ha1 : (h_k h0 (h_r h0 nd 3)).1 = 20) (hl1 : 6 ≤ ((h_k h0 (h_r h0 nd 3)).2 : Int)) (hs0 : 16 ≤ h_r h0 nd 3) (ha2 : (h_k h0 (h_r h0 (h_r h0 nd 4) 2)).1 = 20) (hl2 : 63 ≤ ((h_k h0 (h_r h0 (h_r h0 nd 4) 2)).2 : Int))
    (g0 : d < 0 → HJ 73 106 lv [] h Q)
    (g1 : d ≥ 0 → p = (-1) → HJ 73 106 lv [] h Q)
    (g2 : ∀ h3 : MH, ∀ H3 : Nat → Nat → Int, H3 = m_u H (h_r h0 nd 3) (m_u (H (h_r h0 nd 3)) (d).toNat (H (h_r h0 (h_r h0 nd 4) 0) (p).toNat)) → ∀ x4 : Int32, x4.toInt = H (h_r h0 (h_r h0 nd 4) 2) (p).toNat → ∀ x6 : Int32, x6.toInt = d + (-1) → ∀ lv6 : List (Nat × Value), RX h0 h3 H3 → m_lk lv6 0 = some (.ref nd) → m_lk lv6 1 = some (.ref hp) → m_lk lv6 2 = some (.int lx2) → m_lk lv6 3 = some (.int lx3) → m_lk lv6 4 = some (.int x4) → m_lk lv6 5 = some (.int lx5) → m_lk lv6 6 = some (.int x6) → d ≥ 0 → p ≠ (-1) → HJ 73 60 lv6 [] h3 Q)
    : HJ 73 60 lv [] h Q := by
  refine hI_il2 (k := 6) rfl e6 rfl ?_ -- 60
  refine hM_zlt (off := 44) (t := 106) rfl lq6 (by decide) rfl (fun c62 => ?_) (fun c62 => ?_) -- 62
  · exact g0 c62
  · refine hI_il2 (k := 4) rfl e4 rfl ?_ -- 65
    refine hM_ic (n := (-1)) rfl (by decide) rfl (fun x1 q1 => ?_) -- 67
    refine hM_ceq (off := 38) (t := 106) rfl lq4 q1 (by decide) rfl (fun c68 => ?_) (fun c68 => ?_) -- 68
    · exact g1 c62 c68
    · refine hI_al (k := 0) rfl e0 rfl ?_ -- 71
      refine hR_gr (c := 2) (k := 3) M hk0 rfl rfl rfl rfl ?_ -- 72
      refine hI_il2 (k := 6) rfl e6 rfl ?_ -- 75
      refine hI_al (k := 0) rfl e0 rfl ?_ -- 77
      refine hR_gr (c := 2) (k := 4) M hk0 rfl rfl rfl rfl ?_ -- 78
      refine hR_gr (c := 7) (k := 0) M hk1 rfl rfl rfl rfl ?_ -- 81
      refine hI_il2 (k := 4) rfl e4 rfl ?_ -- 84
      refine hR_ia M ha0 lq4 (by omega) (by omega) rfl rfl (fun x2 q2 => ?_) -- 86
      have gb2 : -2147483648 ≤ H (h_r h0 (h_r h0 nd 4) 0) (p).toNat ∧ H (h_r h0 (h_r h0 nd 4) 0) (p).toNat ≤ 2147483647 := by rw [← q2]; exact g_iT _
      refine hR_is M hs0 ha1 lq6 q2 (by omega) (by omega) rfl rfl (fun h3 H3 f3 M3 => ?_) -- 87
      refine hI_al (k := 0) rfl e0 rfl ?_ -- 88
      refine hR_gr (c := 2) (k := 4) M3 hk0 rfl rfl rfl rfl ?_ -- 89
      refine hR_gr (c := 7) (k := 2) M3 hk1 rfl rfl rfl rfl ?_ -- 92
      refine hI_il2 (k := 4) rfl e4 rfl ?_ -- 95
      refine hR_ia M3 ha2 lq4 (by omega) (by omega) rfl rfl (fun x4 q4 => ?_) -- 97
      rw [show H3 (h_r h0 (h_r h0 nd 4) 2) (p).toNat = H (h_r h0 (h_r h0 nd 4) 2) (p).toNat by rw [f3, m_uN _ _ _ _ px0]] at q4
      have gb4 : -2147483648 ≤ H (h_r h0 (h_r h0 nd 4) 2) (p).toNat ∧ H (h_r h0 (h_r h0 nd 4) 2) (p).toNat ≤ 2147483647 := by rw [← q4]; exact g_iT _
      refine hM_si2 (k := 4) rfl (by decide +kernel) rfl (fun lv5 e5_4 u5 => ?_) -- 98
      have e5_0 := u5 0 _ (by decide) (Or.inl rfl) e0
      have e5_1 := u5 1 _ (by decide) (Or.inl rfl) e1
      have e5_2 := u5 2 _ (by decide) (Or.inl rfl) e2
      have e5_3 := u5 3 _ (by decide) (Or.inl rfl) e3
      have e5_5 := u5 5 _ (by decide) (Or.inl rfl) e5
      have e5_6 := u5 6 _ (by decide) (Or.inl rfl) e6
      refine hM_inc (k := 6) (z := (-1)) rfl e5_6 lq6 (by decide) (by omega) (by omega) (by decide +kernel) rfl (fun lv6 x6 q6 e6_6 u6 => ?_) -- 100
      have e6_0 := u6 0 _ (by decide) (Or.inl rfl) e5_0
      have e6_1 := u6 1 _ (by decide) (Or.inl rfl) e5_1
      have e6_2 := u6 2 _ (by decide) (Or.inl rfl) e5_2
      have e6_3 := u6 3 _ (by decide) (Or.inl rfl) e5_3
      have e6_5 := u6 5 _ (by decide) (Or.inl rfl) e5_5
      have e6_4 := u6 4 _ (by decide) (Or.inl rfl) e5_4
      refine hI_go (pc' := 60) (off := (-43)) rfl (by decide) ?_ -- 103
      exact g2 h3 H3 f3 x4 q4 x6 q6 lv6 M3 e6_0 e6_1 e6_2 e6_3 e6_4 e6_5 e6_6 c62 c68
theorem r_lw106 {nd hp : Nat} {t k n : Int} (M : RX h0 h H) (e0 : m_lk lv 0 = some (.ref nd)) (e1 : m_lk lv 1 = some (.ref hp)) {lx2 : Int32} (e2 : m_lk lv 2 = some (.int lx2)) (lq2 : lx2.toInt = t) {lx3 : Int32} (e3 : m_lk lv 3 = some (.int lx3)) (lq3 : lx3.toInt = k) {lx5 : Int32} (e5 : m_lk lv 5 = some (.int lx5)) (lq5 : lx5.toInt = n) 
    (g0 : HJ 60 0 (lv_args 0 [.int lx2, .int lx3]) [] h (fun v h' => HJ 73 111 lv (v.toList ++ []) h' Q))
    : HJ 73 106 lv [] h Q := by
  refine hI_il (k := 2) rfl e2 rfl ?_ -- 106
  refine hI_il (k := 3) rfl e3 rfl ?_ -- 107
  refine hM_is0 (as := [.int lx2, .int lx3]) (r := []) rfl rfl (by decide +kernel) rfl rfl rfl rfl rfl ?_ -- 108
  exact g0 
theorem r_lw111 {nd hp : Nat} {t k n w : Int} (M : RX h0 h H) (e0 : m_lk lv 0 = some (.ref nd)) (e1 : m_lk lv 1 = some (.ref hp)) {lx2 : Int32} (e2 : m_lk lv 2 = some (.int lx2)) (lq2 : lx2.toInt = t) {lx3 : Int32} (e3 : m_lk lv 3 = some (.int lx3)) (lq3 : lx3.toInt = k) {lx5 : Int32} (e5 : m_lk lv 5 = some (.int lx5)) (lq5 : lx5.toInt = n) {sx0 : Int32} (sq0 : sx0.toInt = w) 
    (g0 : ∀ lv2 : List (Nat × Value), m_lk lv2 0 = some (.ref nd) → m_lk lv2 1 = some (.ref hp) → m_lk lv2 2 = some (.int lx2) → m_lk lv2 3 = some (.int lx3) → m_lk lv2 5 = some (.int lx5) → m_lk lv2 6 = some (.int sx0) → m_lk lv2 7 = some (.int lx5) → HJ 73 117 lv2 [] h Q)
    : HJ 73 111 lv [.int sx0] h Q := by
  refine hM_si2 (k := 6) rfl (by decide +kernel) rfl (fun lv1 e1_6 u1 => ?_) -- 111
  have e1_0 := u1 0 _ (by decide) (Or.inl rfl) e0
  have e1_1 := u1 1 _ (by decide) (Or.inl rfl) e1
  have e1_2 := u1 2 _ (by decide) (Or.inl rfl) e2
  have e1_3 := u1 3 _ (by decide) (Or.inl rfl) e3
  have e1_5 := u1 5 _ (by decide) (Or.inl rfl) e5
  refine hI_il2 (k := 5) rfl e1_5 rfl ?_ -- 113
  refine hM_si2 (k := 7) rfl (by decide +kernel) rfl (fun lv2 e2_7 u2 => ?_) -- 115
  have e2_0 := u2 0 _ (by decide) (Or.inl rfl) e1_0
  have e2_1 := u2 1 _ (by decide) (Or.inl rfl) e1_1
  have e2_2 := u2 2 _ (by decide) (Or.inl rfl) e1_2
  have e2_3 := u2 3 _ (by decide) (Or.inl rfl) e1_3
  have e2_5 := u2 5 _ (by decide) (Or.inl rfl) e1_5
  have e2_6 := u2 6 _ (by decide) (Or.inl rfl) e1_6
  exact g0 lv2 e2_0 e2_1 e2_2 e2_3 e2_5 e2_6 e2_7
theorem r_lw117 {nd hp : Nat} {t k n w e : Int} (M : RX h0 h H) (e0 : m_lk lv 0 = some (.ref nd)) (e1 : m_lk lv 1 = some (.ref hp)) {lx2 : Int32} (e2 : m_lk lv 2 = some (.int lx2)) (lq2 : lx2.toInt = t) {lx3 : Int32} (e3 : m_lk lv 3 = some (.int lx3)) (lq3 : lx3.toInt = k) {lx5 : Int32} (e5 : m_lk lv 5 = some (.int lx5)) (lq5 : lx5.toInt = n) {lx6 : Int32} (e6 : m_lk lv 6 = some (.int lx6)) (lq6 : lx6.toInt = w) {lx7 : Int32} (e7 : m_lk lv 7 = some (.int lx7)) (lq7 : lx7.toInt = e) (pe1 : e ≤ 5) (hk0 : (h_k h0 nd).1 = 3) (ha0 : (h_k h0 (h_r h0 nd 3)).1 = 20) (hl0 : 6 ≤ ((h_k h0 (h_r h0 nd 3)).2 : Int)) (hs0 : 16 ≤ nd)
    (g0 : e ≤ 0 → HJ 73 146 lv [] h Q)
    (g1 : ∀ x3 : Int32, x3.toInt = H (h_r h0 nd 3) (e - 1).toNat → e > 0 → HJ 66 0 (lv_args 0 [.ref nd, .int x3]) [] h (fun v h' => HJ 73 137 lv (v.toList ++ [.int lx6]) h' Q))
    : HJ 73 117 lv [] h Q := by
  refine hI_il2 (k := 7) rfl e7 rfl ?_ -- 117
  refine hM_zle (off := 27) (t := 146) rfl lq7 (by decide) rfl (fun c119 => ?_) (fun c119 => ?_) -- 119
  · exact g0 c119
  · refine hI_il2 (k := 6) rfl e6 rfl ?_ -- 122
    refine hI_al (k := 0) rfl e0 rfl ?_ -- 124
    refine hI_al (k := 0) rfl e0 rfl ?_ -- 125
    refine hR_gr (c := 2) (k := 3) M hk0 rfl rfl rfl rfl ?_ -- 126
    refine hI_il2 (k := 7) rfl e7 rfl ?_ -- 129
    refine hM_ic (n := 1) rfl (by decide) rfl (fun x1 q1 => ?_) -- 131
    refine hM_sub rfl lq7 q1 (by omega) (by omega) rfl (fun x2 q2 => ?_) -- 132
    refine hR_ia M ha0 q2 (by omega) (by omega) rfl rfl (fun x3 q3 => ?_) -- 133
    have gb3 : -2147483648 ≤ H (h_r h0 nd 3) (e - 1).toNat ∧ H (h_r h0 nd 3) (e - 1).toNat ≤ 2147483647 := by rw [← q3]; exact g_iT _
    refine HJ.call (j := 66) (as := [.ref nd, .int x3]) (rr := [.int lx6]) (pc' := 137) (m_cR (kc := 2) rfl rfl (by decide +kernel) rfl rfl rfl ⟨rfl, by decide +kernel, by decide +kernel⟩ (by decide) hs0 (by rw [M.2.1]; exact hk0)) (by show 2 ≤ m_lc 66; decide +kernel) ?_ -- 134
    exact g1 x3 q3 c119
theorem r_lw137 {nd hp : Nat} {t k n w e w1 z : Int} (M : RX h0 h H) (e0 : m_lk lv 0 = some (.ref nd)) (e1 : m_lk lv 1 = some (.ref hp)) {lx2 : Int32} (e2 : m_lk lv 2 = some (.int lx2)) (lq2 : lx2.toInt = t) {lx3 : Int32} (e3 : m_lk lv 3 = some (.int lx3)) (lq3 : lx3.toInt = k) {lx5 : Int32} (e5 : m_lk lv 5 = some (.int lx5)) (lq5 : lx5.toInt = n) {lx6 : Int32} (e6 : m_lk lv 6 = some (.int lx6)) (lq6 : lx6.toInt = w) {lx7 : Int32} (e7 : m_lk lv 7 = some (.int lx7)) (lq7 : lx7.toInt = e) {sx0 : Int32} (sq0 : sx0.toInt = w1) {sx1 : Int32} (sq1 : sx1.toInt = z) (pe0 : 1 ≤ e) (pe1 : e ≤ 5)
    (g0 : w1 ≥ z → HJ 73 146 lv [] h Q)
    (g1 : ∀ x1 : Int32, x1.toInt = e + (-1) → ∀ lv1 : List (Nat × Value), m_lk lv1 0 = some (.ref nd) → m_lk lv1 1 = some (.ref hp) → m_lk lv1 2 = some (.int lx2) → m_lk lv1 3 = some (.int lx3) → m_lk lv1 5 = some (.int lx5) → m_lk lv1 6 = some (.int lx6) → m_lk lv1 7 = some (.int x1) → w1 < z → HJ 73 117 lv1 [] h Q)
    : HJ 73 137 lv [.int sx1, .int sx0] h Q := by
  refine hM_cge (off := 9) (t := 146) rfl sq0 sq1 (by decide) rfl (fun c137 => ?_) (fun c137 => ?_) -- 137
  · exact g0 c137
  · refine hM_inc (k := 7) (z := (-1)) rfl e7 lq7 (by decide) (by omega) (by omega) (by decide +kernel) rfl (fun lv1 x1 q1 e1_7 u1 => ?_) -- 140
    have e1_0 := u1 0 _ (by decide) (Or.inl rfl) e0
    have e1_1 := u1 1 _ (by decide) (Or.inl rfl) e1
    have e1_2 := u1 2 _ (by decide) (Or.inl rfl) e2
    have e1_3 := u1 3 _ (by decide) (Or.inl rfl) e3
    have e1_5 := u1 5 _ (by decide) (Or.inl rfl) e5
    have e1_6 := u1 6 _ (by decide) (Or.inl rfl) e6
    refine hI_go (pc' := 117) (off := (-26)) rfl (by decide) ?_ -- 143
    exact g1 x1 q1 lv1 e1_0 e1_1 e1_2 e1_3 e1_5 e1_6 e1_7 c137
theorem r_lw146 {nd hp : Nat} {t k n w e : Int} (M : RX h0 h H) (e0 : m_lk lv 0 = some (.ref nd)) (e1 : m_lk lv 1 = some (.ref hp)) {lx2 : Int32} (e2 : m_lk lv 2 = some (.int lx2)) (lq2 : lx2.toInt = t) {lx3 : Int32} (e3 : m_lk lv 3 = some (.int lx3)) (lq3 : lx3.toInt = k) {lx5 : Int32} (e5 : m_lk lv 5 = some (.int lx5)) (lq5 : lx5.toInt = n) {lx6 : Int32} (e6 : m_lk lv 6 = some (.int lx6)) (lq6 : lx6.toInt = w) {lx7 : Int32} (e7 : m_lk lv 7 = some (.int lx7)) (lq7 : lx7.toInt = e)  (hk0 : (h_k h0 nd).1 = 3)
    (g0 : ∀ x1 : Int32, x1.toInt = H nd 5 → ∀ x3 : Int32, x3.toInt = 0 → ∀ lv4 : List (Nat × Value), m_lk lv4 0 = some (.ref nd) → m_lk lv4 1 = some (.ref hp) → m_lk lv4 2 = some (.int lx2) → m_lk lv4 3 = some (.int lx3) → m_lk lv4 5 = some (.int lx5) → m_lk lv4 6 = some (.int lx6) → m_lk lv4 7 = some (.int lx7) → m_lk lv4 8 = some (.int x1) → m_lk lv4 9 = some (.int x3) → HJ 73 155 lv4 [] h Q)
    : HJ 73 146 lv [] h Q := by
  refine hI_al (k := 0) rfl e0 rfl ?_ -- 146
  refine hR_gi (c := 2) (k := 5) M hk0 rfl rfl rfl rfl (fun x1 q1 => ?_) -- 147
  have gb1 : -2147483648 ≤ H nd 5 ∧ H nd 5 ≤ 2147483647 := by rw [← q1]; exact g_iT _
  refine hM_si2 (k := 8) rfl (by decide +kernel) rfl (fun lv2 e2_8 u2 => ?_) -- 150
  have e2_0 := u2 0 _ (by decide) (Or.inl rfl) e0
  have e2_1 := u2 1 _ (by decide) (Or.inl rfl) e1
  have e2_2 := u2 2 _ (by decide) (Or.inl rfl) e2
  have e2_3 := u2 3 _ (by decide) (Or.inl rfl) e3
  have e2_5 := u2 5 _ (by decide) (Or.inl rfl) e5
  have e2_6 := u2 6 _ (by decide) (Or.inl rfl) e6
  have e2_7 := u2 7 _ (by decide) (Or.inl rfl) e7
  refine hM_ic (n := 0) rfl (by decide) rfl (fun x3 q3 => ?_) -- 152
  refine hM_si2 (k := 9) rfl (by decide +kernel) rfl (fun lv4 e4_9 u4 => ?_) -- 153
  have e4_0 := u4 0 _ (by decide) (Or.inl rfl) e2_0
  have e4_1 := u4 1 _ (by decide) (Or.inl rfl) e2_1
  have e4_2 := u4 2 _ (by decide) (Or.inl rfl) e2_2
  have e4_3 := u4 3 _ (by decide) (Or.inl rfl) e2_3
  have e4_5 := u4 5 _ (by decide) (Or.inl rfl) e2_5
  have e4_6 := u4 6 _ (by decide) (Or.inl rfl) e2_6
  have e4_7 := u4 7 _ (by decide) (Or.inl rfl) e2_7
  have e4_8 := u4 8 _ (by decide) (Or.inl rfl) e2_8
  exact g0 x1 q1 x3 q3 lv4 e4_0 e4_1 e4_2 e4_3 e4_5 e4_6 e4_7 e4_8 e4_9
theorem r_lw155 {nd hp : Nat} {t k n w e f d : Int} (M : RX h0 h H) (e0 : m_lk lv 0 = some (.ref nd)) (e1 : m_lk lv 1 = some (.ref hp)) {lx2 : Int32} (e2 : m_lk lv 2 = some (.int lx2)) (lq2 : lx2.toInt = t) {lx3 : Int32} (e3 : m_lk lv 3 = some (.int lx3)) (lq3 : lx3.toInt = k) {lx5 : Int32} (e5 : m_lk lv 5 = some (.int lx5)) (lq5 : lx5.toInt = n) {lx6 : Int32} (e6 : m_lk lv 6 = some (.int lx6)) (lq6 : lx6.toInt = w) {lx7 : Int32} (e7 : m_lk lv 7 = some (.int lx7)) (lq7 : lx7.toInt = e) {lx8 : Int32} (e8 : m_lk lv 8 = some (.int lx8)) (lq8 : lx8.toInt = f) {lx9 : Int32} (e9 : m_lk lv 9 = some (.int lx9)) (lq9 : lx9.toInt = d) (pd0 : 0 ≤ d) (pe0 : 0 ≤ e) (pn5 : n ≤ 5) (hk0 : (h_k h0 nd).1 = 3) (ha0 : (h_k h0 (h_r h0 nd 3)).1 = 20) (hl0 : 6 ≤ ((h_k h0 (h_r h0 nd 3)).2 : Int)) (hs0 : 16 ≤ nd)
    (g0 : d > n → HJ 73 266 lv [] h Q)
    (g1 : ∀ x1 : Int32, x1.toInt = H (h_r h0 nd 3) (d).toNat → ∀ x2 : Int32, x2.toInt = H (h_r h0 nd 3) (d).toNat → d ≤ n → d ≠ e → d ≤ e → HJ 66 0 (lv_args 0 [.ref nd, .int x2]) [] h (fun v h' => HJ 73 207 lv (v.toList ++ [.int x1, .ref nd]) h' Q))
    (g2 : ∀ x1 : Int32, x1.toInt = H (h_r h0 nd 3) (d).toNat → ∀ x5 : Int32, x5.toInt = H (h_r h0 nd 3) (d - 1).toNat → d ≤ n → d ≠ e → d > e → HJ 66 0 (lv_args 0 [.ref nd, .int x5]) [] h (fun v h' => HJ 73 207 lv (v.toList ++ [.int x1, .ref nd]) h' Q))
    (g3 : ∀ x1 : Int32, x1.toInt = H (h_r h0 nd 3) (d).toNat → d ≤ n → d = e → HJ 79 0 (lv_args 0 [.ref nd, .int x1, .int lx6]) [] h (fun v h' => HJ 73 210 lv (v.toList ++ []) h' Q))
    : HJ 73 155 lv [] h Q := by
  refine hI_il2 (k := 9) rfl e9 rfl ?_ -- 155
  refine hI_il2 (k := 5) rfl e5 rfl ?_ -- 157
  refine hM_cgt (off := 107) (t := 266) rfl lq9 lq5 (by decide) rfl (fun c159 => ?_) (fun c159 => ?_) -- 159
  · exact g0 c159
  · refine hI_al (k := 0) rfl e0 rfl ?_ -- 162
    refine hI_al (k := 0) rfl e0 rfl ?_ -- 163
    refine hR_gr (c := 2) (k := 3) M hk0 rfl rfl rfl rfl ?_ -- 164
    refine hI_il2 (k := 9) rfl e9 rfl ?_ -- 167
    refine hR_ia M ha0 lq9 (by omega) (by omega) rfl rfl (fun x1 q1 => ?_) -- 169
    have gb1 : -2147483648 ≤ H (h_r h0 nd 3) (d).toNat ∧ H (h_r h0 nd 3) (d).toNat ≤ 2147483647 := by rw [← q1]; exact g_iT _
    refine hI_il2 (k := 9) rfl e9 rfl ?_ -- 170
    refine hI_il2 (k := 7) rfl e7 rfl ?_ -- 172
    refine hM_cne (off := 8) (t := 182) rfl lq9 lq7 (by decide) rfl (fun c174 => ?_) (fun c174 => ?_) -- 174
    · refine hI_al (k := 0) rfl e0 rfl ?_ -- 182
      refine hI_al (k := 0) rfl e0 rfl ?_ -- 183
      refine hR_gr (c := 2) (k := 3) M hk0 rfl rfl rfl rfl ?_ -- 184
      refine hI_il2 (k := 9) rfl e9 rfl ?_ -- 187
      refine hI_il2 (k := 7) rfl e7 rfl ?_ -- 189
      refine hM_cle (off := 10) (t := 201) rfl lq9 lq7 (by decide) rfl (fun c191 => ?_) (fun c191 => ?_) -- 191
      · refine hI_il2 (k := 9) rfl e9 rfl ?_ -- 201
        refine hR_ia M ha0 lq9 (by omega) (by omega) rfl rfl (fun x2 q2 => ?_) -- 203
        have gb2 : -2147483648 ≤ H (h_r h0 nd 3) (d).toNat ∧ H (h_r h0 nd 3) (d).toNat ≤ 2147483647 := by rw [← q2]; exact g_iT _
        refine HJ.call (j := 66) (as := [.ref nd, .int x2]) (rr := [.int x1, .ref nd]) (pc' := 207) (m_cR (kc := 2) rfl rfl (by decide +kernel) rfl rfl rfl ⟨rfl, by decide +kernel, by decide +kernel⟩ (by decide) hs0 (by rw [M.2.1]; exact hk0)) (by show 2 ≤ m_lc 66; decide +kernel) ?_ -- 204
        exact g1 x1 q1 x2 q2 c159 c174 c191
      · refine hI_il2 (k := 9) rfl e9 rfl ?_ -- 194
        refine hM_ic (n := 1) rfl (by decide) rfl (fun x3 q3 => ?_) -- 196
        refine hM_sub rfl lq9 q3 (by omega) (by omega) rfl (fun x4 q4 => ?_) -- 197
        refine hI_go (pc' := 203) (off := 5) rfl (by decide) ?_ -- 198
        refine hR_ia M ha0 q4 (by omega) (by omega) rfl rfl (fun x5 q5 => ?_) -- 203
        have gb5 : -2147483648 ≤ H (h_r h0 nd 3) (d - 1).toNat ∧ H (h_r h0 nd 3) (d - 1).toNat ≤ 2147483647 := by rw [← q5]; exact g_iT _
        refine HJ.call (j := 66) (as := [.ref nd, .int x5]) (rr := [.int x1, .ref nd]) (pc' := 207) (m_cR (kc := 2) rfl rfl (by decide +kernel) rfl rfl rfl ⟨rfl, by decide +kernel, by decide +kernel⟩ (by decide) hs0 (by rw [M.2.1]; exact hk0)) (by show 2 ≤ m_lc 66; decide +kernel) ?_ -- 204
        exact g2 x1 q1 x5 q5 c159 c174 c191
    · refine hI_il2 (k := 6) rfl e6 rfl ?_ -- 177
      refine hI_go (pc' := 207) (off := 28) rfl (by decide) ?_ -- 179
      refine HJ.call (j := 79) (as := [.ref nd, .int x1, .int lx6]) (rr := []) (pc' := 210) (m_cR (kc := 2) rfl rfl (by decide +kernel) rfl rfl rfl ⟨rfl, by decide +kernel, by decide +kernel⟩ (by decide) hs0 (by rw [M.2.1]; exact hk0)) (by show 3 ≤ m_lc 79; decide +kernel) ?_ -- 207
      exact g3 x1 q1 c159 c174
theorem r_lw207 {nd hp : Nat} {t k n w e f d v z : Int} (M : RX h0 h H) (e0 : m_lk lv 0 = some (.ref nd)) (e1 : m_lk lv 1 = some (.ref hp)) {lx2 : Int32} (e2 : m_lk lv 2 = some (.int lx2)) (lq2 : lx2.toInt = t) {lx3 : Int32} (e3 : m_lk lv 3 = some (.int lx3)) (lq3 : lx3.toInt = k) {lx5 : Int32} (e5 : m_lk lv 5 = some (.int lx5)) (lq5 : lx5.toInt = n) {lx6 : Int32} (e6 : m_lk lv 6 = some (.int lx6)) (lq6 : lx6.toInt = w) {lx7 : Int32} (e7 : m_lk lv 7 = some (.int lx7)) (lq7 : lx7.toInt = e) {lx8 : Int32} (e8 : m_lk lv 8 = some (.int lx8)) (lq8 : lx8.toInt = f) {lx9 : Int32} (e9 : m_lk lv 9 = some (.int lx9)) (lq9 : lx9.toInt = d) {sx1 : Int32} (sq1 : sx1.toInt = v) {sx2 : Int32} (sq2 : sx2.toInt = z)  (hs0 : 16 ≤ nd) (hk0 : (h_k h0 nd).1 = 3)
    (g0 : HJ 79 0 (lv_args 0 [.ref nd, .int sx1, .int sx2]) [] h (fun v h' => HJ 73 210 lv (v.toList ++ []) h' Q))
    : HJ 73 207 lv [.int sx2, .int sx1, .ref nd] h Q := by
  refine HJ.call (j := 79) (as := [.ref nd, .int sx1, .int sx2]) (rr := []) (pc' := 210) (m_cR (kc := 2) rfl rfl (by decide +kernel) rfl rfl rfl ⟨rfl, by decide +kernel, by decide +kernel⟩ (by decide) hs0 (by rw [M.2.1]; exact hk0)) (by show 3 ≤ m_lc 79; decide +kernel) ?_ -- 207
  exact g0 
theorem r_lw210 {nd hp : Nat} {t k n w e f d : Int} (M : RX h0 h H) (e0 : m_lk lv 0 = some (.ref nd)) (e1 : m_lk lv 1 = some (.ref hp)) {lx2 : Int32} (e2 : m_lk lv 2 = some (.int lx2)) (lq2 : lx2.toInt = t) {lx3 : Int32} (e3 : m_lk lv 3 = some (.int lx3)) (lq3 : lx3.toInt = k) {lx5 : Int32} (e5 : m_lk lv 5 = some (.int lx5)) (lq5 : lx5.toInt = n) {lx6 : Int32} (e6 : m_lk lv 6 = some (.int lx6)) (lq6 : lx6.toInt = w) {lx7 : Int32} (e7 : m_lk lv 7 = some (.int lx7)) (lq7 : lx7.toInt = e) {lx8 : Int32} (e8 : m_lk lv 8 = some (.int lx8)) (lq8 : lx8.toInt = f) {lx9 : Int32} (e9 : m_lk lv 9 = some (.int lx9)) (lq9 : lx9.toInt = d) (pd0 : 0 ≤ d) (pn5 : n ≤ 5) (pf0 : 0 ≤ f) (pf1 : f ≤ 16000) (hk0 : (h_k h0 nd).1 = 3) (ha0 : (h_k h0 (h_r h0 nd 3)).1 = 20) (hl0 : 6 ≤ ((h_k h0 (h_r h0 nd 3)).2 : Int)) (hs0 : 16 ≤ nd)
    (g0 : d ≥ n → HJ 73 260 lv [] h Q)
    (g1 : ∀ x1 : Int32, x1.toInt = f + d → ∀ x2 : Int32, x2.toInt = H (h_r h0 nd 3) (d).toNat → d < n → HJ 67 0 (lv_args 0 [.ref nd, .int x2]) [] h (fun v h' => HJ 73 234 lv (v.toList ++ [.int x1, .ref nd]) h' Q))
    : HJ 73 210 lv [] h Q := by
  refine hI_il2 (k := 9) rfl e9 rfl ?_ -- 210
  refine hI_il2 (k := 5) rfl e5 rfl ?_ -- 212
  refine hM_cge (off := 46) (t := 260) rfl lq9 lq5 (by decide) rfl (fun c214 => ?_) (fun c214 => ?_) -- 214
  · exact g0 c214
  · refine hI_al (k := 0) rfl e0 rfl ?_ -- 217
    refine hI_il2 (k := 8) rfl e8 rfl ?_ -- 218
    refine hI_il2 (k := 9) rfl e9 rfl ?_ -- 220
    refine hM_add rfl lq8 lq9 (by omega) (by omega) rfl (fun x1 q1 => ?_) -- 222
    refine hI_al (k := 0) rfl e0 rfl ?_ -- 223
    refine hI_al (k := 0) rfl e0 rfl ?_ -- 224
    refine hR_gr (c := 2) (k := 3) M hk0 rfl rfl rfl rfl ?_ -- 225
    refine hI_il2 (k := 9) rfl e9 rfl ?_ -- 228
    refine hR_ia M ha0 lq9 (by omega) (by omega) rfl rfl (fun x2 q2 => ?_) -- 230
    have gb2 : -2147483648 ≤ H (h_r h0 nd 3) (d).toNat ∧ H (h_r h0 nd 3) (d).toNat ≤ 2147483647 := by rw [← q2]; exact g_iT _
    refine HJ.call (j := 67) (as := [.ref nd, .int x2]) (rr := [.int x1, .ref nd]) (pc' := 234) (m_cR (kc := 2) rfl rfl (by decide +kernel) rfl rfl rfl ⟨rfl, by decide +kernel, by decide +kernel⟩ (by decide) hs0 (by rw [M.2.1]; exact hk0)) (by show 2 ≤ m_lc 67; decide +kernel) ?_ -- 231
    exact g1 x1 q1 x2 q2 c214
theorem r_lw234 {nd hp : Nat} {t k n w e f d g a : Int} (M : RX h0 h H) (e0 : m_lk lv 0 = some (.ref nd)) (e1 : m_lk lv 1 = some (.ref hp)) {lx2 : Int32} (e2 : m_lk lv 2 = some (.int lx2)) (lq2 : lx2.toInt = t) {lx3 : Int32} (e3 : m_lk lv 3 = some (.int lx3)) (lq3 : lx3.toInt = k) {lx5 : Int32} (e5 : m_lk lv 5 = some (.int lx5)) (lq5 : lx5.toInt = n) {lx6 : Int32} (e6 : m_lk lv 6 = some (.int lx6)) (lq6 : lx6.toInt = w) {lx7 : Int32} (e7 : m_lk lv 7 = some (.int lx7)) (lq7 : lx7.toInt = e) {lx8 : Int32} (e8 : m_lk lv 8 = some (.int lx8)) (lq8 : lx8.toInt = f) {lx9 : Int32} (e9 : m_lk lv 9 = some (.int lx9)) (lq9 : lx9.toInt = d) {sx1 : Int32} (sq1 : sx1.toInt = g) {sx2 : Int32} (sq2 : sx2.toInt = a) (pd0 : 0 ≤ d) (pd1 : d ≤ 4) (pa0 : 0 ≤ a) (pa1 : a ≤ 5) (hk0 : (h_k h0 nd).1 = 3) (ha0 : (h_k h0 (h_r h0 nd 3)).1 = 20) (hl0 : 6 ≤ ((h_k h0 (h_r h0 nd 3)).2 : Int)) (hs0 : 16 ≤ nd)
    (g0 : ∀ x2 : Int32, x2.toInt = a - 1 → ∀ x5 : Int32, x5.toInt = H (h_r h0 nd 3) (d + 1).toNat → HJ 67 0 (lv_args 0 [.ref nd, .int x5]) [] h (fun v h' => HJ 73 249 lv (v.toList ++ [.int x2, .int sx1, .ref nd]) h' Q))
    : HJ 73 234 lv [.int sx2, .int sx1, .ref nd] h Q := by
  refine hM_ic (n := 1) rfl (by decide) rfl (fun x1 q1 => ?_) -- 234
  refine hM_sub rfl sq2 q1 (by omega) (by omega) rfl (fun x2 q2 => ?_) -- 235
  refine hI_al (k := 0) rfl e0 rfl ?_ -- 236
  refine hI_al (k := 0) rfl e0 rfl ?_ -- 237
  refine hR_gr (c := 2) (k := 3) M hk0 rfl rfl rfl rfl ?_ -- 238
  refine hI_il2 (k := 9) rfl e9 rfl ?_ -- 241
  refine hM_ic (n := 1) rfl (by decide) rfl (fun x3 q3 => ?_) -- 243
  refine hM_add rfl lq9 q3 (by omega) (by omega) rfl (fun x4 q4 => ?_) -- 244
  refine hR_ia M ha0 q4 (by omega) (by omega) rfl rfl (fun x5 q5 => ?_) -- 245
  have gb5 : -2147483648 ≤ H (h_r h0 nd 3) (d + 1).toNat ∧ H (h_r h0 nd 3) (d + 1).toNat ≤ 2147483647 := by rw [← q5]; exact g_iT _
  refine HJ.call (j := 67) (as := [.ref nd, .int x5]) (rr := [.int x2, .int sx1, .ref nd]) (pc' := 249) (m_cR (kc := 2) rfl rfl (by decide +kernel) rfl rfl rfl ⟨rfl, by decide +kernel, by decide +kernel⟩ (by decide) hs0 (by rw [M.2.1]; exact hk0)) (by show 2 ≤ m_lc 67; decide +kernel) ?_ -- 246
  exact g0 x2 q2 x5 q5
theorem r_lw249 {nd hp : Nat} {t k n w e f d g a b : Int} (M : RX h0 h H) (e0 : m_lk lv 0 = some (.ref nd)) (e1 : m_lk lv 1 = some (.ref hp)) {lx2 : Int32} (e2 : m_lk lv 2 = some (.int lx2)) (lq2 : lx2.toInt = t) {lx3 : Int32} (e3 : m_lk lv 3 = some (.int lx3)) (lq3 : lx3.toInt = k) {lx5 : Int32} (e5 : m_lk lv 5 = some (.int lx5)) (lq5 : lx5.toInt = n) {lx6 : Int32} (e6 : m_lk lv 6 = some (.int lx6)) (lq6 : lx6.toInt = w) {lx7 : Int32} (e7 : m_lk lv 7 = some (.int lx7)) (lq7 : lx7.toInt = e) {lx8 : Int32} (e8 : m_lk lv 8 = some (.int lx8)) (lq8 : lx8.toInt = f) {lx9 : Int32} (e9 : m_lk lv 9 = some (.int lx9)) (lq9 : lx9.toInt = d) {sx1 : Int32} (sq1 : sx1.toInt = g) {sx2 : Int32} (sq2 : sx2.toInt = a) {sx3 : Int32} (sq3 : sx3.toInt = b) (pd0 : 0 ≤ d) (pd1 : d ≤ 4) (pa0 : -1 ≤ a) (pa1 : a ≤ 5) (pb0 : 0 ≤ b) (pb1 : b ≤ 5) (pf0 : 0 ≤ f) (pf1 : f ≤ 16000) (hs0 : 16 ≤ nd) (hk0 : (h_k h0 nd).1 = 3)
    (g0 : ∀ x1 : Int32, x1.toInt = a - b → ∀ x4 : Int32, x4.toInt = (f + d) + 1 → HJ 68 0 (lv_args 0 [.ref nd, .int sx1, .int x1, .int x4]) [] h (fun v h' => HJ 73 260 lv (v.toList ++ []) h' Q))
    : HJ 73 249 lv [.int sx3, .int sx2, .int sx1, .ref nd] h Q := by
  refine hM_sub rfl sq2 sq3 (by omega) (by omega) rfl (fun x1 q1 => ?_) -- 249
  refine hI_il2 (k := 8) rfl e8 rfl ?_ -- 250
  refine hI_il2 (k := 9) rfl e9 rfl ?_ -- 252
  refine hM_add rfl lq8 lq9 (by omega) (by omega) rfl (fun x2 q2 => ?_) -- 254
  refine hM_ic (n := 1) rfl (by decide) rfl (fun x3 q3 => ?_) -- 255
  refine hM_add rfl q2 q3 (by omega) (by omega) rfl (fun x4 q4 => ?_) -- 256
  refine HJ.call (j := 68) (as := [.ref nd, .int sx1, .int x1, .int x4]) (rr := []) (pc' := 260) (m_cR (kc := 2) rfl rfl (by decide +kernel) rfl rfl rfl ⟨rfl, by decide +kernel, by decide +kernel⟩ (by decide) hs0 (by rw [M.2.1]; exact hk0)) (by show 4 ≤ m_lc 68; decide +kernel) ?_ -- 257
  exact g0 x1 q1 x4 q4
theorem r_lw260 {nd hp : Nat} {t k n w e f d : Int} (M : RX h0 h H) (e0 : m_lk lv 0 = some (.ref nd)) (e1 : m_lk lv 1 = some (.ref hp)) {lx2 : Int32} (e2 : m_lk lv 2 = some (.int lx2)) (lq2 : lx2.toInt = t) {lx3 : Int32} (e3 : m_lk lv 3 = some (.int lx3)) (lq3 : lx3.toInt = k) {lx5 : Int32} (e5 : m_lk lv 5 = some (.int lx5)) (lq5 : lx5.toInt = n) {lx6 : Int32} (e6 : m_lk lv 6 = some (.int lx6)) (lq6 : lx6.toInt = w) {lx7 : Int32} (e7 : m_lk lv 7 = some (.int lx7)) (lq7 : lx7.toInt = e) {lx8 : Int32} (e8 : m_lk lv 8 = some (.int lx8)) (lq8 : lx8.toInt = f) {lx9 : Int32} (e9 : m_lk lv 9 = some (.int lx9)) (lq9 : lx9.toInt = d) (pd0 : 0 ≤ d) (pd1 : d ≤ 5)
    (g0 : ∀ x1 : Int32, x1.toInt = d + 1 → ∀ lv1 : List (Nat × Value), m_lk lv1 0 = some (.ref nd) → m_lk lv1 1 = some (.ref hp) → m_lk lv1 2 = some (.int lx2) → m_lk lv1 3 = some (.int lx3) → m_lk lv1 5 = some (.int lx5) → m_lk lv1 6 = some (.int lx6) → m_lk lv1 7 = some (.int lx7) → m_lk lv1 8 = some (.int lx8) → m_lk lv1 9 = some (.int x1) → HJ 73 155 lv1 [] h Q)
    : HJ 73 260 lv [] h Q := by
  refine hM_inc (k := 9) (z := 1) rfl e9 lq9 (by decide) (by omega) (by omega) (by decide +kernel) rfl (fun lv1 x1 q1 e1_9 u1 => ?_) -- 260
  have e1_0 := u1 0 _ (by decide) (Or.inl rfl) e0
  have e1_1 := u1 1 _ (by decide) (Or.inl rfl) e1
  have e1_2 := u1 2 _ (by decide) (Or.inl rfl) e2
  have e1_3 := u1 3 _ (by decide) (Or.inl rfl) e3
  have e1_5 := u1 5 _ (by decide) (Or.inl rfl) e5
  have e1_6 := u1 6 _ (by decide) (Or.inl rfl) e6
  have e1_7 := u1 7 _ (by decide) (Or.inl rfl) e7
  have e1_8 := u1 8 _ (by decide) (Or.inl rfl) e8
  refine hI_go (pc' := 155) (off := (-108)) rfl (by decide) ?_ -- 263
  exact g0 x1 q1 lv1 e1_0 e1_1 e1_2 e1_3 e1_5 e1_6 e1_7 e1_8 e1_9
theorem r_lw266 {nd hp : Nat} {t k n w e f d : Int} (M : RX h0 h H) (e0 : m_lk lv 0 = some (.ref nd)) (e1 : m_lk lv 1 = some (.ref hp)) {lx2 : Int32} (e2 : m_lk lv 2 = some (.int lx2)) (lq2 : lx2.toInt = t) {lx3 : Int32} (e3 : m_lk lv 3 = some (.int lx3)) (lq3 : lx3.toInt = k) {lx5 : Int32} (e5 : m_lk lv 5 = some (.int lx5)) (lq5 : lx5.toInt = n) {lx6 : Int32} (e6 : m_lk lv 6 = some (.int lx6)) (lq6 : lx6.toInt = w) {lx7 : Int32} (e7 : m_lk lv 7 = some (.int lx7)) (lq7 : lx7.toInt = e) {lx8 : Int32} (e8 : m_lk lv 8 = some (.int lx8)) (lq8 : lx8.toInt = f) {lx9 : Int32} (e9 : m_lk lv 9 = some (.int lx9)) (lq9 : lx9.toInt = d)  (hk0 : (h_k h0 nd).1 = 3) (ha0 : (h_k h0 (h_r h0 nd 3)).1 = 20) (hl0 : 6 ≤ ((h_k h0 (h_r h0 nd 3)).2 : Int)) (hs0 : 16 ≤ nd)
    (g0 : ∀ x2 : Int32, x2.toInt = H (h_r h0 nd 3) (0 : Int).toNat → HJ 67 0 (lv_args 0 [.ref nd, .int x2]) [] h (fun v h' => HJ 73 276 lv (v.toList ++ []) h' Q))
    : HJ 73 266 lv [] h Q := by
  refine hI_al (k := 0) rfl e0 rfl ?_ -- 266
  refine hI_al (k := 0) rfl e0 rfl ?_ -- 267
  refine hR_gr (c := 2) (k := 3) M hk0 rfl rfl rfl rfl ?_ -- 268
  refine hM_ic (n := 0) rfl (by decide) rfl (fun x1 q1 => ?_) -- 271
  refine hR_ia M ha0 q1 (by omega) (by omega) rfl rfl (fun x2 q2 => ?_) -- 272
  have gb2 : -2147483648 ≤ H (h_r h0 nd 3) (0 : Int).toNat ∧ H (h_r h0 nd 3) (0 : Int).toNat ≤ 2147483647 := by rw [← q2]; exact g_iT _
  refine HJ.call (j := 67) (as := [.ref nd, .int x2]) (rr := []) (pc' := 276) (m_cR (kc := 2) rfl rfl (by decide +kernel) rfl rfl rfl ⟨rfl, by decide +kernel, by decide +kernel⟩ (by decide) hs0 (by rw [M.2.1]; exact hk0)) (by show 2 ≤ m_lc 67; decide +kernel) ?_ -- 273
  exact g0 x2 q2
theorem r_lw276 {nd hp : Nat} {t k n w e f d r : Int} (M : RX h0 h H) (e0 : m_lk lv 0 = some (.ref nd)) (e1 : m_lk lv 1 = some (.ref hp)) {lx2 : Int32} (e2 : m_lk lv 2 = some (.int lx2)) (lq2 : lx2.toInt = t) {lx3 : Int32} (e3 : m_lk lv 3 = some (.int lx3)) (lq3 : lx3.toInt = k) {lx5 : Int32} (e5 : m_lk lv 5 = some (.int lx5)) (lq5 : lx5.toInt = n) {lx6 : Int32} (e6 : m_lk lv 6 = some (.int lx6)) (lq6 : lx6.toInt = w) {lx7 : Int32} (e7 : m_lk lv 7 = some (.int lx7)) (lq7 : lx7.toInt = e) {lx8 : Int32} (e8 : m_lk lv 8 = some (.int lx8)) (lq8 : lx8.toInt = f) {lx9 : Int32} (e9 : m_lk lv 9 = some (.int lx9)) (lq9 : lx9.toInt = d) {sx0 : Int32} (sq0 : sx0.toInt = r)  (ha0 : (h_k h0 hp).1 = 20) (hl0 : 6 ≤ ((h_k h0 hp).2 : Int)) (hs0 : 16 ≤ hp)
    (g0 : ∀ x2 : Int32, x2.toInt = 1 → ∀ lv1 : List (Nat × Value), r < 0 → Q (some (.int x2)) h)
    (g1 : ∀ x4 : Int32, x4.toInt = 1 → ∀ lv1 : List (Nat × Value), r ≥ 0 → r ≥ 6 → Q (some (.int x4)) h)
    (g2 : ∀ h5 : MH, ∀ H5 : Nat → Nat → Int, H5 = m_u H hp (m_u (H hp) (r).toNat (f)) → ∀ x6 : Int32, x6.toInt = 1 → ∀ lv1 : List (Nat × Value), RX h0 h5 H5 → r ≥ 0 → r < 6 → Q (some (.int x6)) h5)
    : HJ 73 276 lv [.int sx0] h Q := by
  refine hM_si2 (k := 9) rfl (by decide +kernel) rfl (fun lv1 e1_9 u1 => ?_) -- 276
  have e1_0 := u1 0 _ (by decide) (Or.inl rfl) e0
  have e1_1 := u1 1 _ (by decide) (Or.inl rfl) e1
  have e1_2 := u1 2 _ (by decide) (Or.inl rfl) e2
  have e1_3 := u1 3 _ (by decide) (Or.inl rfl) e3
  have e1_5 := u1 5 _ (by decide) (Or.inl rfl) e5
  have e1_6 := u1 6 _ (by decide) (Or.inl rfl) e6
  have e1_7 := u1 7 _ (by decide) (Or.inl rfl) e7
  have e1_8 := u1 8 _ (by decide) (Or.inl rfl) e8
  refine hI_il2 (k := 9) rfl e1_9 rfl ?_ -- 278
  refine hM_zlt (off := 16) (t := 296) rfl sq0 (by decide) rfl (fun c280 => ?_) (fun c280 => ?_) -- 280
  · refine hM_ic (n := 1) rfl (by decide) rfl (fun x2 q2 => ?_) -- 296
    refine hM_rb rfl rfl q2 (by omega) (by omega) ?_ -- 297
    exact g0 x2 q2 lv1 c280
  · refine hI_il2 (k := 9) rfl e1_9 rfl ?_ -- 283
    refine hM_bp (n := 6) rfl (by decide) rfl (fun x3 q3 => ?_) -- 285
    refine hM_cge (off := 9) (t := 296) rfl sq0 q3 (by decide) rfl (fun c287 => ?_) (fun c287 => ?_) -- 287
    · refine hM_ic (n := 1) rfl (by decide) rfl (fun x4 q4 => ?_) -- 296
      refine hM_rb rfl rfl q4 (by omega) (by omega) ?_ -- 297
      exact g1 x4 q4 lv1 c280 c287
    · refine hI_al (k := 1) rfl e1_1 rfl ?_ -- 290
      refine hI_il2 (k := 9) rfl e1_9 rfl ?_ -- 291
      refine hI_il2 (k := 8) rfl e1_8 rfl ?_ -- 293
      refine hR_is M hs0 ha0 sq0 lq8 (by omega) (by omega) rfl rfl (fun h5 H5 f5 M5 => ?_) -- 295
      refine hM_ic (n := 1) rfl (by decide) rfl (fun x6 q6 => ?_) -- 296
      refine hM_rb rfl rfl q6 (by omega) (by omega) ?_ -- 297
      exact g2 h5 H5 f5 x6 q6 lv1 M5 c280 c287
-- the way up
theorem l_lwP {nd hp : Nat} {S : PSt} {O : WKt} {p t k : Int} {n : Nat} {H1 : Nat → Nat → Int} {xt xk xn : Int32} (ok : nx_ok h0 nd) (okO : wk_ok S O) (P : wl_of h0 H1 (h_r h0 nd 4) S O) (w63 : O.1 ≤ 63) (p0 : 0 ≤ p) (p1 : p < (O.1 : Int)) (en : O.2.2.2 p.toNat = (n : Int)) (n5 : n ≤ 5) (qt : xt.toInt = t) (qk : xk.toInt = k) (qn : xn.toInt = (n : Int)) (g : ∀ (lv : List (Nat × Value)) (h' : MH) (H' : Nat → Nat → Int), RX h0 h' H' → (∀ a, a ≠ h_r h0 nd 3 → H' a = H1 a) → (∀ j, j ≤ n → H' (h_r h0 nd 3) j = (lw_y O p n j : Int)) → m_lk lv 0 = some (.ref nd) → m_lk lv 1 = some (.ref hp) → m_lk lv 2 = some (.int xt) → m_lk lv 3 = some (.int xk) → m_lk lv 5 = some (.int xn) → HJ 73 106 lv [] h' Q) : ∀ (e : Nat) (lv : List (Nat × Value)) (h : MH) (H : Nat → Nat → Int) (xp xd : Int32), e ≤ n + 1 → xd.toInt = (e : Int) - 1 → xp.toInt = lw_an O p (n + 1 - e) → RX h0 h H → (∀ a, a ≠ h_r h0 nd 3 → H a = H1 a) → (∀ j, e ≤ j → j ≤ n → H (h_r h0 nd 3) j = (lw_y O p n j : Int)) → m_lk lv 0 = some (.ref nd) → m_lk lv 1 = some (.ref hp) → m_lk lv 2 = some (.int xt) → m_lk lv 3 = some (.int xk) → m_lk lv 4 = some (.int xp) → m_lk lv 5 = some (.int xn) → m_lk lv 6 = some (.int xd) → HJ 73 60 lv [] h Q := by
  obtain ⟨P1, P2⟩ := P
  have w := ok.2.2.2.2.1
  obtain ⟨ka0, kb0, -, kc0⟩ := w.2.1 0 (by decide)
  obtain ⟨ka2, kb2, -, kc2⟩ := w.2.1 2 (by decide)
  have x0 := ok.2.2.2.2.2 0 (by decide)
  have x2 := ok.2.2.2.2.2 2 (by decide)
  have pth := ok.2.2.1.1
  intro e
  induction e with
  | zero =>
    intro lv h H xp xd he qd qp M q1 q2 e0 e1 e2 e3 e4 e5 e6
    have z := lw_anE okO p0 p1 en
    rw [Nat.sub_zero, z] at qp
    exact r_lw60 M e0 e1 e2 qt e3 qk e4 qp e5 qn e6 qd (by omega) (by omega) (by omega) x2.2.2 ok.1.1.1 w.1.1 ka0 kc0 pth.1 pth.2.2 pth.2.1 ka2 kc2 (fun _ => g lv h H M q1 (fun j hj => q2 j (Nat.zero_le _) hj) e0 e1 e2 e3 e5) (fun c => absurd c (by omega)) (fun _ _ _ _ _ _ _ _ _ _ _ _ _ _ _ _ c => absurd c (by omega))
  | succ e ih =>
    intro lv h H xp xd he qd qp M q1 q2 e0 e1 e2 e3 e4 e5 e6
    rw [show n + 1 - (e + 1) = n - e by omega] at qp
    obtain ⟨a0, a1, a2⟩ := lw_anP okO p0 p1 (n - e) (by omega)
    obtain ⟨y1, y2⟩ := lw_yP okO p0 p1 en (d := e) (by omega)
    obtain ⟨c0, -, c2, -⟩ := P2 (lw_an O p (n - e)).toNat (by omega)
    refine r_lw60 M e0 e1 e2 qt e3 qk e4 qp e5 qn e6 qd (by omega) (by omega) (by omega) x2.2.2 ok.1.1.1 w.1.1 ka0 kc0 pth.1 pth.2.2 pth.2.1 ka2 kc2 (fun c => absurd c (by omega)) (fun _ c => absurd c (by omega)) (fun h3 H3 f3 x4 q4 x6 q6 lv6 M3 b0 b1 b2 b3 b4 b5 b6 _ _ => ?_)
    rw [q1 _ x0.2.2, c0, y1, show (((e + 1 : Nat) : Int) - 1).toNat = e by omega] at f3
    rw [q1 _ x2.2.2, c2] at q4
    refine ih lv6 h3 H3 x4 x6 (by omega) (by omega) ?_ M3 (fun a ha => by rw [f3, m_uN _ _ _ _ ha]; exact q1 a ha) (fun j hj hn => ?_) b0 b1 b2 b3 b4 b5 b6
    · rw [q4, show n + 1 - e = (n - e) + 1 by omega]
      rfl
    · rw [f3, m_uE]
      by_cases z : j = e
      · rw [z, m_uE]
      · rw [m_uN _ _ _ _ z]
        exact q2 j (by omega) hn
-- how far it rises
theorem l_lwR {nd hp : Nat} {S : PSt} {t k w : Int} {n : Nat} {y : Nat → Nat} {xt xk xn xw : Int32} (M : RX h0 h H) (ok : nx_ok h0 nd) (nok : nd_ok h0 nd (ps_n S)) (I : cs_of h0 H nd S) (pt : ∀ j, j ≤ n → H (h_r h0 nd 3) j = (y j : Int) ∧ y j < ps_n S) (n5 : n ≤ 5) (t0 : 0 ≤ t) (t1 : t ≤ 127) (qt : xt.toInt = t) (qk : xk.toInt = k) (qn : xn.toInt = (n : Int)) (qw : xw.toInt = w) (ew : w = 128 * k + t) (g : ∀ (lv : List (Nat × Value)) (xe : Int32), xe.toInt = (lw_ri S t k y n : Int) → m_lk lv 0 = some (.ref nd) → m_lk lv 1 = some (.ref hp) → m_lk lv 2 = some (.int xt) → m_lk lv 3 = some (.int xk) → m_lk lv 5 = some (.int xn) → m_lk lv 6 = some (.int xw) → m_lk lv 7 = some (.int xe) → HJ 73 146 lv [] h Q) : ∀ (e : Nat) (lv : List (Nat × Value)) (xe : Int32), e ≤ n → xe.toInt = (e : Int) → lw_ri S t k y n = lw_ri S t k y e → m_lk lv 0 = some (.ref nd) → m_lk lv 1 = some (.ref hp) → m_lk lv 2 = some (.int xt) → m_lk lv 3 = some (.int xk) → m_lk lv 5 = some (.int xn) → m_lk lv 6 = some (.int xw) → m_lk lv 7 = some (.int xe) → HJ 73 117 lv [] h Q := by
  have pth := ok.2.2.1.1
  intro e
  induction e with
  | zero =>
    intro lv xe he qe er e0 e1 e2 e3 e5 e6 e7
    exact r_lw117 M e0 e1 e2 qt e3 qk e5 qn e6 qw e7 qe (by omega) ok.1.1.1 pth.1 pth.2.2 ok.1.1.2.1 (fun _ => g lv xe (by rw [er]; exact qe) e0 e1 e2 e3 e5 e6 e7) (fun _ _ c => absurd c (by omega))
  | succ e ih =>
    intro lv xe he qe er e0 e1 e2 e3 e5 e6 e7
    obtain ⟨p1, p2⟩ := pt e (by omega)
    obtain ⟨-, ct, cy, -⟩ := I.2.2.2.2 (y e) p2
    refine r_lw117 M e0 e1 e2 qt e3 qk e5 qn e6 qw e7 qe (by omega) ok.1.1.1 pth.1 pth.2.2 ok.1.1.2.1 (fun c => absurd c (by omega)) (fun x3 q3 _ => ?_)
    rw [show (((e + 1 : Nat) : Int) - 1).toNat = e by omega, p1] at q3
    refine k_wt M nok I q3 (by omega) (by omega) (fun xz qz => ?_)
    rw [Int.toNat_natCast] at qz
    refine r_lw137 M e0 e1 e2 qt e3 qk e5 qn e6 qw e7 qe qw qz (by omega) (by omega) (fun c => ?_) (fun x1 q1 lv1 a0 a1 a2 a3 a5 a6 a7 c => ?_)
    · refine g lv xe ?_ e0 e1 e2 e3 e5 e6 e7
      rw [er, lw_ri, if_neg (by omega)]
      exact qe
    · refine ih lv1 x1 (by omega) (by omega) ?_ a0 a1 a2 a3 a5 a6 a7
      rw [er, lw_ri, if_pos (by omega)]
-- the nodes of the way made again
theorem l_lwM {nd hp : Nat} {S : PSt} {t k w : Int} {n r : Nat} {y : Nat → Nat} {xt xk xn xw xe xf : Int32} (ok0 : nx_ok h0 nd) (sh : ps_sh S) (hy : ∀ j, j ≤ n → y j < ps_n S) (n5 : n ≤ 5) (cap : ps_n S + 6 ≤ 16000) (t0 : 0 ≤ t) (t1 : t ≤ 127) (k0 : 0 ≤ k) (k1 : k ≤ 99) (qt : xt.toInt = t) (qk : xk.toInt = k) (qn : xn.toInt = (n : Int)) (qw : xw.toInt = w) (ew : w = 128 * k + t) (qe : xe.toInt = (r : Int)) (qf : xf.toInt = (ps_n S : Int)) (g : ∀ (lv : List (Nat × Value)) (h' : MH) (xd : Int32), nl_ok h' nd → cs_of h' (z_i h') nd (lw_mk S t k y n r (n + 1)) → (∀ j, j ≤ n → z_i h' (h_r h0 nd 3) j = (y j : Int)) → FX nd (fun _ => False) h0 h' → m_lk lv 0 = some (.ref nd) → m_lk lv 1 = some (.ref hp) → m_lk lv 2 = some (.int xt) → m_lk lv 3 = some (.int xk) → m_lk lv 5 = some (.int xn) → m_lk lv 6 = some (.int xw) → m_lk lv 7 = some (.int xe) → m_lk lv 8 = some (.int xf) → m_lk lv 9 = some (.int xd) → HJ 73 266 lv [] h' Q) : ∀ (e d : Nat) (lv : List (Nat × Value)) (h : MH) (xd : Int32), d + e = n + 1 → xd.toInt = (d : Int) → nl_ok h nd → cs_of h (z_i h) nd (lw_mk S t k y n r d) → (∀ j, j ≤ n → z_i h (h_r h0 nd 3) j = (y j : Int)) → FX nd (fun _ => False) h0 h → m_lk lv 0 = some (.ref nd) → m_lk lv 1 = some (.ref hp) → m_lk lv 2 = some (.int xt) → m_lk lv 3 = some (.int xk) → m_lk lv 5 = some (.int xn) → m_lk lv 6 = some (.int xw) → m_lk lv 7 = some (.int xe) → m_lk lv 8 = some (.int xf) → m_lk lv 9 = some (.int xd) → HJ 73 155 lv [] h Q := by
  intro e
  induction e with
  | zero =>
    intro d lv h xd hd qd ok I pt F e0 e1 e2 e3 e5 e6 e7 e8 e9
    have dn : d = n + 1 := by omega
    subst dn
    obtain ⟨-, r3, -, -⟩ := nx_r ok0 F
    have pth := (ap_FX ok0.2.2.1 F).1
    exact r_lw155 (RX.start h) e0 e1 e2 qt e3 qk e5 qn e6 qw e7 qe e8 qf e9 qd (by omega) (by omega) (by omega) ok.1.1 (by rw [r3]; exact pth.1) (by rw [r3]; exact pth.2.2) ok.1.2.1 (fun _ => g lv h xd ok I pt F e0 e1 e2 e3 e5 e6 e7 e8 e9) (fun _ _ _ _ c => absurd c (by omega)) (fun _ _ _ _ c => absurd c (by omega)) (fun _ _ c => absurd c (by omega))
  | succ e ih =>
    intro d lv h xd hd qd ok I pt F e0 e1 e2 e3 e5 e6 e7 e8 e9
    obtain ⟨-, r3, -, -⟩ := nx_r ok0 F
    have pth := (ap_FX ok0.2.2.1 F).1
    obtain ⟨⟨v1, v2⟩, v3, v4⟩ := lw_mkV (S := S) (t := t) (k := k) (y := y) (n := n) (e := r) d
    have nok := nl_nd ok I.1
    have M := RX.start h
    have yd := hy d (by omega)
    obtain ⟨b1, b2, b3, b4⟩ := v3 (y d) yd
    have P3 : ∀ j, j ≤ n → (h_i h (h_r h nd 3) j).toInt = (y j : Int) := fun j hj => by rw [r3]; exact pt j hj
    have kd := sh (y d) yd
    -- one node made again, its child on the way set
    have mk : ∀ (xv xz : Int32) (ty tt : Int), xv.toInt = (y d : Int) → xz.toInt = 128 * ty + tt → 0 ≤ tt → tt ≤ 127 → 0 ≤ ty → ty ≤ 99 → tt = (if d = r then t else ps_t S (y (if r < d then d - 1 else d))) → ty = (if d = r then k else ps_y S (y (if r < d then d - 1 else d))) → HJ 79 0 (lv_args 0 [.ref nd, .int xv, .int xz]) [] h (fun v h' => HJ 73 210 lv (v.toList ++ []) h' Q) := fun xv xz ty tt qv qz u0 u1 u2 u3 et ey => by
      refine k_remake ok I (by rw [v1]; omega) qv (by omega) (by rw [v1]; omega) qz u0 u1 u2 u3 (fun h1 ok1 I1 F1 => ?_)
      rw [Int.toNat_natCast, b3] at I1
      have F01 := F.trans F1
      obtain ⟨-, r31, -, -⟩ := nx_r ok0 F01
      have pth1 := (ap_FX ok0.2.2.1 F01).1
      have P1 : ∀ j, j ≤ n → z_i h1 (h_r h1 nd 3) j = (y j : Int) := fun j hj => by
        rw [r31, ap_kp ok (ap_FX ok0.2.2.1 F) (fun z => z) F1 j]
        exact pt j hj
      have M1 := RX.start h1
      have nok1 := nl_nd ok1 I1.1
      have n1 : ps_n (ps_mk (lw_mk S t k y n r d) tt ty (ps_k S (y d)) (fun r_1 => ps_b (lw_mk S t k y n r d) (6 * y d + r_1))) = ps_n S + d + 1 := by
        show ps_n (lw_mk S t k y n r d) + 1 = _
        rw [v1]
      have k1_ : ∀ j, j ≤ n → ps_k (ps_mk (lw_mk S t k y n r d) tt ty (ps_k S (y d)) (fun r_1 => ps_b (lw_mk S t k y n r d) (6 * y d + r_1))) (y j) = ps_k S (y j) := fun j hj => by
        show m_u (ps_k (lw_mk S t k y n r d)) (ps_n (lw_mk S t k y n r d)) (ps_k S (y d)) (y j) = _
        have := hy j hj
        rw [m_uN _ _ _ _ (by rw [v1]; omega)]
        exact (v3 _ this).2.2.1
      have fin : ∀ (h2 : MH) (lv2 : List (Nat × Value)), nl_ok h2 nd → cs_of h2 (z_i h2) nd (lw_mk S t k y n r (d + 1)) → (∀ j, j ≤ n → z_i h2 (h_r h0 nd 3) j = (y j : Int)) → FX nd (fun _ => False) h0 h2 → HJ 73 260 lv [] h2 Q := fun h2 _ ok2 I2 pt2 F2 => r_lw260 (RX.start h2) e0 e1 e2 qt e3 qk e5 qn e6 qw e7 qe e8 qf e9 qd (by omega) (by omega) (fun x1 q1 lv1 a0 a1 a2 a3 a5 a6 a7 a8 a9 => ih (d + 1) lv1 h2 x1 (by omega) (by omega) ok2 I2 pt2 F2 a0 a1 a2 a3 a5 a6 a7 a8 a9)
      have eS : lw_mk S t k y n r (d + 1) = ps_mk (lw_mk S t k y n r d) tt ty (ps_k S (y d)) (fun r => if d < n ∧ (r : Int) = ps_k S (y (d + 1)) then ((ps_n S + d + 1 : Nat) : Int) else ps_b S (6 * y d + r)) := by rw [lw_mk, et, ey]
      have pt1 : ∀ j, j ≤ n → z_i h1 (h_r h0 nd 3) j = (y j : Int) := fun j hj => by rw [← r31]; exact P1 j hj
      have same : (∀ q : Nat, (q : Int) < ps_k S (y d) → ¬ (d < n ∧ (q : Int) = ps_k S (y (d + 1)))) → cs_of h1 (z_i h1) nd (lw_mk S t k y n r (d + 1)) := fun z => by
        rw [eS]
        refine cs_fe I1 (fun q hq => ?_)
        rw [if_neg (z q hq)]
        exact (b4 q (by omega)).symm
      refine r_lw210 M1 e0 e1 e2 qt e3 qk e5 qn e6 qw e7 qe e8 qf e9 qd (by omega) (by omega) (by omega) (by omega) ok1.1.1 (by rw [r31]; exact pth1.1) (by rw [r31]; exact pth1.2.2) ok1.1.2.1 (fun c => fin h1 lv ok1 (same (fun q _ z => by omega)) pt1 F01) (fun x1 q1 x2 q2 c => ?_)
      have q2 : x2.toInt = (y d : Int) := by
        rw [q2, Int.toNat_natCast]
        exact P1 d (by omega)
      refine k_rk M1 nok1 I1 q2 (by omega) (by rw [n1]; omega) (fun xa qa => ?_)
      rw [Int.toNat_natCast, k1_ d (by omega)] at qa
      refine r_lw234 M1 e0 e1 e2 qt e3 qk e5 qn e6 qw e7 qe e8 qf e9 qd q1 qa (by omega) (by omega) kd.1.1 kd.1.2 ok1.1.1 (by rw [r31]; exact pth1.1) (by rw [r31]; exact pth1.2.2) ok1.1.2.1 (fun x3 q3 x5 q5 => ?_)
      have q5 : x5.toInt = (y (d + 1) : Int) := by
        rw [q5, show ((d : Int) + 1).toNat = d + 1 by omega]
        exact P1 (d + 1) (by omega)
      have yd1 := hy (d + 1) (by omega)
      have kd1 := (sh (y (d + 1)) yd1).1
      refine k_rk M1 nok1 I1 q5 (by omega) (by rw [n1]; omega) (fun xb qb => ?_)
      rw [Int.toNat_natCast, k1_ (d + 1) (by omega)] at qb
      refine r_lw249 M1 e0 e1 e2 qt e3 qk e5 qn e6 qw e7 qe e8 qf e9 qd q1 q3 qb (by omega) (by omega) (by omega) (by omega) kd1.1 kd1.2 (by omega) (by omega) ok1.1.2.1 ok1.1.1 (fun x6 q6 x7 q7 => ?_)
      by_cases lt : ps_k S (y (d + 1)) < ps_k S (y d)
      · have i5 : z_i h1 nd 5 = ((ps_n S + d + 1 : Nat) : Int) := I1.1.trans (by rw [n1])
        have nok2 : nd_ok h1 nd ((fun a j => (h_i h1 a j).toInt) nd 5).toNat := nl_nd ok1 (by show z_i h1 nd 5 = ((z_i h1 nd 5).toNat : Int); omega)
        have i5' : (h_i h1 nd 5).toInt = ((ps_n S + d + 1 : Nat) : Int) := i5
        refine k_sc M1 nok2 (by omega) (by omega) q1 q6 q7 (by omega) (by omega) (by omega) (by omega) (fun h2 H2 f2 M2 => ?_)
        have ix : 7 * ((ps_n S : Int) + (d : Int)).toNat + 2 + (ps_k S (y d) - 1 - ps_k S (y (d + 1))).toNat = 7 * ps_n (lw_mk S t k y n r d) + 2 + ((ps_k S (y d)).toNat - 1 - (ps_k S (y (d + 1))).toNat) := by rw [v1]; omega
        rw [ix] at f2
        have nC : nd ≠ h_r h1 nd 0 := fun z => by have a := ok1.1.1; have b := ok1.2.1.1; rw [← z] at b; omega
        have I2 : cs_of h1 H2 nd (lw_mk S t k y n r (d + 1)) := by
          rw [eS]
          refine cs_sc (q := (ps_k S (y (d + 1))).toNat) I1 (by omega) nC f2 (fun q hq => ?_)
          by_cases z : q = (ps_k S (y (d + 1))).toNat
          · rw [if_pos z, if_pos ⟨by omega, by omega⟩]
            omega
          · rw [if_neg z, if_neg (fun w => by omega)]
            exact (b4 q (by omega)).symm
        have r2 : h_r h2 nd 0 = h_r h1 nd 0 := by rw [M2.2.2.1.1]
        have I3 : cs_of h2 (z_i h2) nd (lw_mk S t k y n r (d + 1)) := cs_mv I2 (M2.zi nd 5) (M2.zi nd 6) (fun q _ => by rw [r2]; exact M2.zi _ _)
        have F2 : FX nd (fun _ => False) h1 h2 := FX.ofRX M2 (by rw [f2, m_uN _ _ _ _ nC]; rfl) (fun a ha j => by
          rw [f2, m_uN _ _ _ _ (fun z => ha (Or.inr (Or.inl z)))]
          rfl)
        have ok2 : nl_ok h2 nd := nl_RX ok1 M2 (by rw [f2, m_uN _ _ _ _ nC]; rfl)
        exact fin h2 lv ok2 I3 (fun j hj => by rw [ap_kp ok1 (ap_FX ok0.2.2.1 F01) (fun z => z) F2 j]; exact pt1 j hj) (F01.trans F2)
      · refine r_sc M1 rfl rfl q1 rfl q6 rfl q7 (by have := I1.1; rw [n1] at this; show 0 ≤ z_i h1 nd 5; omega) (by have := I1.1; rw [n1] at this; show z_i h1 nd 5 ≤ 16000; omega) ok1.1.1 ok1.2.1.1 (by have := nok1.2.2; rw [n1] at this; have e := I1.1; rw [n1] at e; show 7 * z_i h1 nd 5 ≤ _; omega) ok1.2.1.2.1 (fun c => absurd c (by omega)) (fun _ c => absurd c (by have := I1.1; rw [n1] at this; show ¬ (_ ≥ z_i h1 nd 5); omega)) (fun _ _ _ => fin h1 lv ok1 (same (fun q hq z => by omega)) pt1 F01) (fun _ _ c => absurd c (by omega)) (fun _ _ _ _ _ _ c => absurd c (by omega))
    have T := I.2.2.2.2 (y d) (by rw [v1]; omega)
    have wt : ∀ j, j ≤ n → (0 ≤ ps_t S (y j) ∧ ps_t S (y j) ≤ 127) ∧ (0 ≤ ps_y S (y j) ∧ ps_y S (y j) ≤ 99) := fun j hj => by
      have h1 := hy j hj
      obtain ⟨-, a, b, -⟩ := I.2.2.2.2 (y j) (by rw [v1]; omega)
      rw [(v3 _ h1).1] at a
      rw [(v3 _ h1).2.1] at b
      exact ⟨a, b⟩
    refine r_lw155 M e0 e1 e2 qt e3 qk e5 qn e6 qw e7 qe e8 qf e9 qd (by omega) (by omega) (by omega) ok.1.1 (by rw [r3]; exact pth.1) (by rw [r3]; exact pth.2.2) ok.1.2.1 (fun c => absurd c (by omega)) (fun x1 q1 x2 q2 _ c1 c2 => ?_) (fun x1 q1 x5 q5 _ c1 c2 => ?_) (fun x1 q1 _ c1 => ?_)
    · rw [Int.toNat_natCast, P3 d (by omega)] at q1 q2
      refine k_wt M nok I q2 (by omega) (by rw [v1]; omega) (fun xz qz => ?_)
      rw [Int.toNat_natCast, b1, b2] at qz
      obtain ⟨w1, w2⟩ := wt d (by omega)
      exact r_lw207 M e0 e1 e2 qt e3 qk e5 qn e6 qw e7 qe e8 qf e9 qd q1 qz ok.1.2.1 ok.1.1 (mk x1 xz _ _ q1 qz w1.1 w1.2 w2.1 w2.2 (by rw [if_neg (by omega), if_neg (by omega)]) (by rw [if_neg (by omega), if_neg (by omega)]))
    · rw [Int.toNat_natCast, P3 d (by omega)] at q1
      rw [show ((d : Int) - 1).toNat = d - 1 by omega, P3 (d - 1) (by omega)] at q5
      have yd' := hy (d - 1) (by omega)
      refine k_wt M nok I q5 (by omega) (by rw [v1]; omega) (fun xz qz => ?_)
      rw [Int.toNat_natCast, (v3 _ yd').1, (v3 _ yd').2.1] at qz
      obtain ⟨w1, w2⟩ := wt (d - 1) (by omega)
      exact r_lw207 M e0 e1 e2 qt e3 qk e5 qn e6 qw e7 qe e8 qf e9 qd q1 qz ok.1.2.1 ok.1.1 (mk x1 xz _ _ q1 qz w1.1 w1.2 w2.1 w2.2 (by rw [if_neg (by omega), if_pos (by omega)]) (by rw [if_neg (by omega), if_pos (by omega)]))
    · rw [Int.toNat_natCast, P3 d (by omega)] at q1
      exact mk x1 xw k t q1 (by rw [qw]; exact ew) t0 t1 k0 k1 (by rw [if_pos (by omega)]) (by rw [if_pos (by omega)])
theorem lw_Yr {h0 : MH} {nd hp : Nat} (ok : nx_ok h0 nd) (hx : hx_ok h0 nd hp) : (nd ≠ h_r h0 nd 4 ∧ ∀ k, k < 7 → nd ≠ h_r h0 (h_r h0 nd 4) k) ∧ (h_r h0 nd 0 ≠ h_r h0 nd 4 ∧ ∀ k, k < 7 → h_r h0 nd 0 ≠ h_r h0 (h_r h0 nd 4) k) ∧ (hp ≠ h_r h0 nd 4 ∧ ∀ k, k < 7 → hp ≠ h_r h0 (h_r h0 nd 4) k) := by
  obtain ⟨a, b, c, d⟩ := nx_tr ok
  have w := ok.2.2.2.2.1
  refine ⟨⟨Ne.symm a, fun k hk z => ?_⟩, ⟨Ne.symm b, fun k hk z => (ok.2.2.2.2.2 k hk).1 z.symm⟩, ⟨fun z => ?_, hx.2.2.2⟩⟩
  · have u := (w.2.1 k hk).1
    rw [← z, ok.1.1.1] at u
    omega
  · have u := w.1.1
    rw [← z, hx.1.1.1] at u
    omega
theorem k_lower {nd hp : Nat} {S : PSt} {f : Nat → Int} {t k : Int} {xt xk : Int32} (ok : nx_ok h nd) (hx : hx_ok h nd hp) (I : cs_of h (z_i h) nd S) (ef : hp6 (z_i h hp) f) (sh : ps_sh S) (hf : hp_in S f) (cap : ps_n S + 6 ≤ 16000) (qt : xt.toInt = t) (qk : xk.toInt = k) (k0 : 0 ≤ k) (g : ∀ (x : Int32) (h' : MH), (x.toInt = 0 ∧ lw_do S f t k = none ∧ cs_of h' (z_i h') nd S ∧ hp6 (z_i h' hp) f) ∨ (x.toInt = 1 ∧ ∃ X, lw_do S f t k = some X ∧ cs_of h' (z_i h') nd X.1 ∧ hp6 (z_i h' hp) X.2) → nl_ok h' nd → FX nd (lw_Y h nd hp) h h' → Q (some (.int x)) h') : HJ 73 0 (lv_args 0 [.ref nd, .ref hp, .int xt, .int xk]) [] h Q := by
  have w := ok.2.2.2.2.1
  obtain ⟨⟨nw, nwk⟩, ⟨cw, cwk⟩, hw_⟩ := lw_Yr ok hx
  obtain ⟨okO, wO⟩ := wk_allI sh hf
  have L := p_wsL (f := f) 6
  have e6 : (2 : Nat) ^ 6 = 64 := by decide
  rw [e6] at L
  have nok := nl_nd ok.1 I.1
  have M := RX.start h
  refine r_lw0 M rfl rfl rfl qt rfl qk ok.1.1.1 w.1.2.1 w.1.1 ?_
  refine k_look M w nok I ⟨nw, nwk⟩ ⟨cw, cwk⟩ hx.1.1 hw_ ef sh hf (fun h1 H1 M1 fr P => ?_)
  have I1 : cs_of h H1 nd S := cs_mv (h1 := h) I (by rw [fr nd nw nwk]; rfl) (by rw [fr nd nw nwk]; rfl) (fun q _ => by rw [fr _ cw cwk]; rfl)
  have cut1 : ∀ {h2 : MH} {H2 : Nat → Nat → Int}, RX h h2 H2 → (∀ a, a ≠ h_r h nd 3 → H2 a = H1 a) → nl_ok h2 nd ∧ cs_of h2 (z_i h2) nd S ∧ hp6 (z_i h2 hp) f ∧ FX nd (lw_Y h nd hp) h h2 := fun {h2 H2} M2 e2 => by
    have p0 := nl_ap ok.1 ok.2.2.1.1.1 ok.2.2.1.2.2
    have r2 : h_r h2 nd 0 = h_r h nd 0 := by rw [M2.2.2.1.1]
    refine ⟨nl_RX ok.1 M2 (by rw [e2 nd (Ne.symm p0.1), fr nd nw nwk]; rfl), cs_mv I1 (by rw [M2.zi, e2 nd (Ne.symm p0.1)]) (by rw [M2.zi, e2 nd (Ne.symm p0.1)]) (fun q _ => by rw [r2, M2.zi, e2 _ (Ne.symm p0.2.1)]), fun q hq => ?_, FX.ofRX M2 (by rw [e2 nd (Ne.symm p0.1), fr nd nw nwk]; rfl) (fun a ha j => ?_)⟩
    · rw [M2.zi, e2 hp hx.2.2.1, fr hp hw_.1 hw_.2]
      exact ef q hq
    · have na : ¬ lw_Y h nd hp a := fun z => ha (Or.inr (Or.inr (Or.inr z)))
      rw [e2 a (fun z => na (Or.inr (Or.inl z))), fr a (fun z => na (Or.inr (Or.inr (Or.inl z)))) (fun k hk z => na (Or.inr (Or.inr (Or.inr ⟨k, hk, z⟩))))]
      rfl
  refine r_lw9 M1 rfl rfl rfl qt rfl qk ok.1.1.1 w.1.2.1 w.1.1 ?_
  refine k_fnb M1 w P (fun i hi => ?_) (by omega) qt qk (fun xp qp => ?_)
  · have := okO i hi
    obtain ⟨-, a, b, -⟩ := I.2.2.2.2 ((wk_all S f).2.1 i).toNat (by omega)
    exact ⟨a, b.1⟩
  obtain ⟨kd3, -, -, ld3⟩ := w.2.1 3 (by decide)
  by_cases c : lw_f S t k (wk_all S f) (wk_all S f).1 0 = -1
  · refine r_lw18 M1 rfl rfl rfl qt rfl qk qp (by omega) (by omega) ok.1.1.1 w.1.1 kd3 ld3 (fun _ _ _ z _ => absurd c z) (fun _ _ _ _ _ _ _ _ _ _ z _ _ => absurd c z) (fun _ _ _ z _ _ => absurd c z) (fun x11 q11 _ _ => ?_)
    obtain ⟨o1, i1, e1, f1⟩ := cut1 M1 (fun _ _ => rfl)
    exact g x11 h1 (Or.inl ⟨q11, lw_do0 c, i1, e1⟩) o1 f1
  · obtain ⟨p0, p1, pt, pk⟩ := lw_fP c
    have p0 : 0 ≤ lw_f S t k (wk_all S f) (wk_all S f).1 0 := by omega
    have p1 : lw_f S t k (wk_all S f) (wk_all S f).1 0 < ((wk_all S f).1 : Int) := by omega
    obtain ⟨⟨ra, rb⟩, -, D⟩ := okO (lw_f S t k (wk_all S f) (wk_all S f).1 0).toNat (by omega)
    have kk := (sh ((wk_all S f).2.1 (lw_f S t k (wk_all S f) (wk_all S f).1 0).toNat).toNat (by omega)).1
    obtain ⟨-, tt, yy, -⟩ := I.2.2.2.2 ((wk_all S f).2.1 (lw_f S t k (wk_all S f) (wk_all S f).1 0).toNat).toNat (by omega)
    rw [pt] at tt
    obtain ⟨n, en⟩ : ∃ n : Nat, (wk_all S f).2.2.2 (lw_f S t k (wk_all S f) (wk_all S f).1 0).toNat = (n : Int) := ⟨((wk_all S f).2.2.2 (lw_f S t k (wk_all S f) (wk_all S f).1 0).toNat).toNat, by omega⟩
    have n5 : n ≤ 5 := by omega
    have Hd : H1 (h_r h (h_r h nd 4) 3) (lw_f S t k (wk_all S f) (wk_all S f).1 0).toNat = (n : Int) := by rw [(P.2 _ (by omega)).2.2.2]; exact en
    have eDo := lw_do1 (S := S) (h := f) (t := t) (k := k) (n := n) rfl c (by rw [en]; exact Int.toNat_natCast n) rfl
    have hy : ∀ j, j ≤ n → lw_y (wk_all S f) (lw_f S t k (wk_all S f) (wk_all S f).1 0) n j < ps_n S := fun j hj => (lw_yP okO p0 p1 en hj).2
    generalize hp_ : lw_f S t k (wk_all S f) (wk_all S f).1 0 = p at *
    generalize hyy : lw_y (wk_all S f) p n = y at *
    refine r_lw18 M1 rfl rfl rfl qt rfl qk qp (by omega) (by omega) ok.1.1.1 w.1.1 kd3 ld3 (fun _ _ _ _ z => by omega) (fun x3 q3 lv7 e0 e1 e2 e3 e4 e5 e6 _ _ _ => ?_) (fun _ _ _ _ _ z => by omega) (fun _ _ _ z => absurd z c)
    have q3 : x3.toInt = (n : Int) := q3.trans Hd
    refine l_lwP (O := wk_all S f) (p := p) ok okO P (by omega) p0 p1 en n5 qt qk q3 (fun lvA hA HA MA qa1 qa2 a0 a1 a2 a3 a5 => ?_) (n + 1) lv7 h1 H1 xp x3 (Nat.le_refl _) (by omega) (by rw [Nat.sub_self]; exact qp) M1 (fun _ _ => rfl) (fun j h1 h2 => by omega) e0 e1 e2 e3 e4 e5 e6
    rw [hyy] at qa2
    obtain ⟨okA, IA, eA, FA⟩ := cut1 MA qa1
    refine r_lw106 MA a0 a1 a2 qt a3 qk a5 q3 ?_
    refine k_weigh qt qk tt.1 tt.2 k0 (by omega) (fun xw qw => ?_)
    refine r_lw111 MA a0 a1 a2 qt a3 qk a5 q3 qw (fun lvB b0 b1 b2 b3 b5 b6 b7 => ?_)
    have JA : cs_of h HA nd S := by
      have p0 := nl_ap ok.1 ok.2.2.1.1.1 ok.2.2.1.2.2
      exact cs_mv (h1 := h) I1 (by rw [qa1 nd (Ne.symm p0.1)]) (by rw [qa1 nd (Ne.symm p0.1)]) (fun q _ => by rw [qa1 _ (Ne.symm p0.2.1)])
    refine l_lwR (w := 128 * k + t) MA ok nok JA (fun j hj => ⟨qa2 j hj, hy j hj⟩) n5 tt.1 tt.2 qt qk q3 qw rfl (fun lvC xe qe c0 c1 c2 c3 c5 c6 c7 => ?_) n lvB x3 (Nat.le_refl _) q3 rfl b0 b1 b2 b3 b5 b6 b7
    refine r_lw146 MA c0 c1 c2 qt c3 qk c5 q3 c6 qw c7 qe ok.1.1.1 (fun xf qf xd qd lvD d0 d1 d2 d3 d5 d6 d7 d8 d9 => ?_)
    have qf : xf.toInt = (ps_n S : Int) := qf.trans JA.1
    have nxA := nx_FX ok okA FA
    obtain ⟨-, r3A, -, -⟩ := nx_r ok FA
    refine l_lwM (w := 128 * k + t) (r := lw_ri S t k y n) (y := y) nxA sh hy n5 cap tt.1 tt.2 k0 (by omega) qt qk q3 qw rfl qe qf (fun lvE hE xd' okE IE ptE FE s0 s1 s2 s3 s5 s6 s7 s8 s9 => ?_) (n + 1) 0 lvD hA xd (by omega) qd okA IA (fun j hj => by rw [r3A, MA.zi]; exact qa2 j hj) FX.same d0 d1 d2 d3 d5 d6 d7 d8 d9
    have nxE := nx_FX nxA okE FE
    have hxE := hx_FX nxA (hx_FX ok hx FA) FE
    obtain ⟨-, r3E, -, -⟩ := nx_r nxA FE
    have ME := RX.start hE
    have nokE := nl_nd okE IE.1
    obtain ⟨⟨v1, -⟩, v3, -⟩ := lw_mkV (S := S) (t := t) (k := k) (y := y) (n := n) (e := lw_ri S t k y n) (n + 1)
    have pthE := nxE.2.2.1.1
    refine r_lw266 ME s0 s1 s2 qt s3 qk s5 q3 s6 qw s7 qe s8 qf s9 rfl okE.1.1 pthE.1 pthE.2.2 okE.1.2.1 (fun xr qr => ?_)
    have y0 := hy 0 (Nat.zero_le _)
    have qr : xr.toInt = (y 0 : Int) := qr.trans (by rw [r3E]; exact ptE 0 (Nat.zero_le _))
    refine k_rk ME nokE IE qr (by omega) (by rw [v1]; omega) (fun xk0 qk0 => ?_)
    rw [Int.toNat_natCast, (v3 _ y0).2.2.1] at qk0
    have kr := (sh (y 0) y0).1
    refine r_lw276 ME s0 s1 s2 qt s3 qk s5 q3 s6 qw s7 qe s8 qf s9 rfl qk0 hxE.1.1.1 hxE.1.1.2.2 hxE.1.1.2.1 (fun _ _ _ z => absurd z (by omega)) (fun _ _ _ _ z => absurd z (by omega)) (fun h5 H5 f5 x6 q6 _ M5 _ _ => ?_)
    obtain ⟨ok5, I5⟩ := st_cs M5 f5 okE hxE.1 IE
    have eE : hp6 (z_i hE hp) f := fun q hq => by
      rw [ap_kp okA (hx_FX ok hx FA).1 (fun z => z) FE q]
      exact eA q hq
    refine g x6 h5 (Or.inr ⟨q6, _, eDo, I5, st_hp M5 f5 eE⟩) ok5 ((FA.trans (FE.mono (fun _ z => z.elim))).trans ((st_FX (Ne.symm (nl_ap okE hxE.1.1.1 hxE.1.2.2).1) M5 f5).mono (fun a z => Or.inl z)))
end
end
