-- WHAT STANDS: frames by addresses
-- unlike (kept from omega's eyes)
def AN (a b : Nat) : Prop := a ≠ b
theorem RX.zi {h0 h : MH} {H : Nat → Nat → Int} (M : RX h0 h H) (a j : Nat) : z_i h a j = H a j := M.2.2.2 a j
-- who holds the nodes that stood; the new ones none
def HX (nd : Nat) (h h' : MH) : Prop := z_i h nd 5 ≤ z_i h' nd 5 ∧ (∀ j : Nat, (j : Int) < z_i h nd 5 → h_l h' (h_r h' nd 1) j = h_l h (h_r h nd 1) j) ∧ ∀ j : Nat, z_i h nd 5 ≤ (j : Int) → (j : Int) < z_i h' nd 5 → h_l h' (h_r h' nd 1) j = 0
theorem HX.trans {nd : Nat} {h h1 h2 : MH} (a : HX nd h h1) (b : HX nd h1 h2) : HX nd h h2 := by
  obtain ⟨a1, a2, a3⟩ := a
  obtain ⟨b1, b2, b3⟩ := b
  refine ⟨by omega, fun j hj => (b2 j (by omega)).trans (a2 j hj), fun j u1 u2 => ?_⟩
  by_cases c : (j : Int) < z_i h1 nd 5
  · exact (b2 j c).trans (a3 j u1 c)
  · exact b3 j (by omega) u2
def FX (nd : Nat) (Y : Nat → Prop) (h h' : MH) : Prop := h_n h ≤ h_n h' ∧ ((∀ k, k < 2 → h_r h' nd k = h_r h nd k ∨ 16 + h_n h ≤ h_r h' nd k) ∧ HX nd h h') ∧ ∀ a, a < 16 + h_n h → h_k h' a = h_k h a ∧ (∀ k, ¬ (a = nd ∧ k < 2) → h_r h' a k = h_r h a k) ∧ (¬ (a = nd ∨ a = h_r h nd 0 ∨ a = h_r h nd 1 ∨ Y a) → (∀ j, z_i h' a j = z_i h a j) ∧ ∀ j, h_l h' a j = h_l h a j)
theorem FX.same {nd : Nat} {Y : Nat → Prop} {h : MH} : FX nd Y h h := ⟨Nat.le_refl _, ⟨fun _ _ => Or.inl rfl, Int.le_refl _, fun _ _ => rfl, fun _ h1 h2 => absurd h2 (by omega)⟩, fun _ _ => ⟨rfl, fun _ _ => rfl, fun _ => ⟨fun _ => rfl, fun _ => rfl⟩⟩⟩
theorem FX.trans {nd : Nat} {Y : Nat → Prop} {h h1 h2 : MH} (a : FX nd Y h h1) (b : FX nd Y h1 h2) : FX nd Y h h2 := by
  obtain ⟨a1, ⟨a2, ax⟩, a3⟩ := a
  obtain ⟨b1, ⟨b2, bx⟩, b3⟩ := b
  refine ⟨Nat.le_trans a1 b1, ⟨fun k hk => ?_, ax.trans bx⟩, fun q hq => ?_⟩
  · rcases b2 k hk with e | e
    · rw [e]
      exact a2 k hk
    · exact Or.inr (by omega)
  · obtain ⟨x1, x2, x3⟩ := a3 q hq
    obtain ⟨y1, y2, y3⟩ := b3 q (by omega)
    refine ⟨y1.trans x1, fun k hk => (y2 k hk).trans (x2 k hk), fun hn => ?_⟩
    obtain ⟨u1, u2⟩ := x3 hn
    obtain ⟨v1, v2⟩ := y3 (fun z => by
      rcases z with z | z | z | z
      · exact hn (Or.inl z)
      · rcases a2 0 (by decide) with e | e
        · exact hn (Or.inr (Or.inl (z.trans e)))
        · omega
      · rcases a2 1 (by decide) with e | e
        · exact hn (Or.inr (Or.inr (Or.inl (z.trans e))))
        · omega
      · exact hn (Or.inr (Or.inr (Or.inr z))))
    exact ⟨fun j => (v1 j).trans (u1 j), fun j => (v2 j).trans (u2 j)⟩
theorem FX.mono {nd : Nat} {Y Y' : Nat → Prop} {h h' : MH} (a : FX nd Y h h') (s : ∀ q, Y q → Y' q) : FX nd Y' h h' := ⟨a.1, a.2.1, fun q hq => ⟨(a.2.2 q hq).1, (a.2.2 q hq).2.1, fun hn => (a.2.2 q hq).2.2 (fun z => hn (by
  rcases z with z | z | z | z
  · exact Or.inl z
  · exact Or.inr (Or.inl z)
  · exact Or.inr (Or.inr (Or.inl z))
  · exact Or.inr (Or.inr (Or.inr (s q z)))))⟩⟩
theorem FX.ofRX {nd : Nat} {Y : Nat → Prop} {h0 h : MH} {H : Nat → Nat → Int} (M : RX h0 h H) (e5 : H nd 5 = z_i h0 nd 5) (e : ∀ a, ¬ (a = nd ∨ a = h_r h0 nd 0 ∨ a = h_r h0 nd 1 ∨ Y a) → ∀ j, H a j = z_i h0 a j) : FX nd Y h0 h := by
  obtain ⟨m1, m2, ⟨m3, m4⟩, m5⟩ := M
  have z5 : z_i h nd 5 = z_i h0 nd 5 := (m5 nd 5).trans e5
  refine ⟨by unfold h_n; rw [m1]; exact Nat.le_refl _, ⟨fun k _ => Or.inl (by rw [m3]), by omega, fun j _ => by rw [m3, m4], fun j h1 h2 => absurd h2 (by omega)⟩, fun a _ => ⟨by rw [m2], fun k _ => by rw [m3], fun hn => ⟨fun j => ?_, fun j => by rw [m4]⟩⟩⟩
  show (h_i h a j).toInt = _
  rw [m5, e a hn]
-- a row or an object that stands apart is as it was
theorem FX.kp {nd : Nat} {Y : Nat → Prop} {h h' : MH} (a : FX nd Y h h') {q : Nat} (hq : q < 16 + h_n h) (n0 : q ≠ nd) (n1 : q ≠ h_r h nd 0) (n2 : q ≠ h_r h nd 1) (n3 : ¬ Y q) : (h_k h' q = h_k h q ∧ ∀ k, h_r h' q k = h_r h q k) ∧ (∀ j, z_i h' q j = z_i h q j) ∧ ∀ j, h_l h' q j = h_l h q j := by
  obtain ⟨x1, x2, x3⟩ := a.2.2 q hq
  exact ⟨⟨x1, fun k => x2 k (fun z => n0 z.1)⟩, x3 (fun z => by
    rcases z with z | z | z | z
    · exact n0 z
    · exact n1 z
    · exact n2 z
    · exact n3 z)⟩
def nl_ok (h : MH) (nd : Nat) : Prop := ((h_k h nd).1 = 3 ∧ 16 ≤ nd ∧ nd < 16 + h_n h) ∧ ((h_k h (h_r h nd 0)).1 = 20 ∧ 16 ≤ h_r h nd 0 ∧ h_r h nd 0 < 16 + h_n h) ∧ ((h_k h (h_r h nd 1)).1 = 25 ∧ 16 ≤ h_r h nd 1 ∧ h_r h nd 1 < 16 + h_n h) ∧ 7 * (h_k h (h_r h nd 1)).2 = (h_k h (h_r h nd 0)).2 ∧ (0 ≤ z_i h nd 5 ∧ z_i h nd 5 ≤ ((h_k h (h_r h nd 1)).2 : Int)) ∧ 64 ≤ (h_k h (h_r h nd 1)).2 ∧ (h_k h (h_r h nd 1)).2 ≤ 32000
-- apart from a Nodes and its rows
theorem nl_ap {h : MH} {nd a : Nat} (ok : nl_ok h nd) (ka : (h_k h a).1 = 20) (na : a ≠ h_r h nd 0) : a ≠ nd ∧ a ≠ h_r h nd 0 ∧ a ≠ h_r h nd 1 := ⟨fun z => by rw [z, ok.1.1] at ka; omega, na, fun z => by rw [z, ok.2.2.1.1] at ka; omega⟩
theorem nl_RX {h0 h : MH} {H : Nat → Nat → Int} {nd : Nat} (ok : nl_ok h0 nd) (M : RX h0 h H) (e : H nd 5 = z_i h0 nd 5) : nl_ok h nd := by
  obtain ⟨m1, m2, ⟨m3, m4⟩, m5⟩ := M
  have en : h_n h = h_n h0 := by unfold h_n; rw [m1]
  have e5 : z_i h nd 5 = z_i h0 nd 5 := (m5 nd 5).trans e
  unfold nl_ok
  rw [en, m2, m3, e5]
  exact ok
-- ROWS COPIED, FILLED
section
variable {lv : List (Nat × Value)} {Q : Option Value → MH → Prop} {h0 h : MH} {H : Nat → Nat → Int}
theorem hR_aa {i pc pc' : Nat} {st : List Value} {j : Int32} {zj : Int} {o : Nat} (M : RX h0 h H) (hk : (h_k h0 o).1 = 33) (hj : j.toInt = zj) (b0 : 0 ≤ zj) (b1 : zj < (h_k h0 o).2) (a : m_at i pc = some (.aaload, 1)) (hp : pc + 1 = pc') (g : HJ i pc' lv (.ref (h_r h0 o zj.toNat) :: st) h Q) : HJ i pc lv (.int j :: .ref o :: st) h Q := hI_aa a (by rw [M.2.1, hk]; decide) (by omega) (by rw [M.2.1]; omega) hp (by rw [hj, M.2.2.1.1]; exact g)
theorem k_copyI {o : Nat} {xn : Int32} (kc : (h_k h o).1 = 20) (o16 : 16 ≤ o) (ol : o < 16 + h_n h) (qn : xn.toInt = 2 * ((h_k h o).2 : Int)) (l0 : 1 ≤ (h_k h o).2) (l1 : (h_k h o).2 ≤ 112000) (g : ∀ h' : MH, h_n h' = h_n h + 1 → (∀ a, a < 16 + h_n h → h_k h' a = h_k h a ∧ (∀ k, h_r h' a k = h_r h a k) ∧ (∀ j, z_i h' a j = z_i h a j) ∧ ∀ j, h_l h' a j = h_l h a j) → h_k h' (16 + h_n h) = (20, 2 * (h_k h o).2) → (∀ j, j < (h_k h o).2 → z_i h' (16 + h_n h) j = z_i h o j) → Q (some (.ref (16 + h_n h))) h') : HJ 62 0 (lv_args 0 [.ref o, .int xn]) [] h Q := by
  have eL : (Int32.ofNat (h_k h o).2).toInt = ((h_k h o).2 : Int) := by
    rw [Int32.toInt_ofNat_of_lt]
    omega
  have hn : xn.toInt.toNat = 2 * (h_k h o).2 := by omega
  refine hI_il (k := 1) rfl rfl rfl ?_
  refine hI_al (k := 0) rfl rfl rfl ?_
  refine hI_len rfl (by rw [kc]; decide) rfl ?_
  refine hM_cne (t := 14) rfl qn eL (by decide) rfl (fun _ => ?_) (fun c => by omega)
  refine hI_il (k := 1) rfl rfl rfl ?_
  refine hI_newa (t := .int) rfl (by decide) (by omega) (by omega) rfl ?_
  rw [hn]
  have ek : h_k (h_new h 20 (2 * (h_k h o).2) (2 * (h_k h o).2)) o = h_k h o := nw_k (by omega)
  refine hI_as (k := 2) rfl (by decide +kernel) rfl ?_
  refine hI_al (k := 0) (x := o) rfl rfl rfl ?_
  refine hI_ic (n := 0) rfl rfl ?_
  refine hI_al (k := 2) (x := 16 + h_n h) rfl rfl rfl ?_
  refine hI_ic (n := 0) rfl rfl ?_
  refine hI_al (k := 0) (x := o) rfl rfl rfl ?_
  refine hI_len rfl ⟨by show 20 ≤ (h_k (h_new h 20 (2 * (h_k h o).2) (2 * (h_k h o).2)) o).1; rw [ek]; omega, by show (h_k (h_new h 20 (2 * (h_k h o).2) (2 * (h_k h o).2)) o).1 < 34; rw [ek]; omega⟩ rfl ?_
  refine hI_il (k := 1) (x := xn) rfl rfl rfl ?_
  refine hI_min rfl rfl ⟨rfl, by decide +kernel, by show 4 + 13 ≤ m_lo 62; decide +kernel⟩ rfl ?_
  have ew : (if xn < Int32.ofNat (h_k (h_new h 20 (2 * (h_k h o).2) (2 * (h_k h o).2)) o).2 then xn else Int32.ofNat (h_k (h_new h 20 (2 * (h_k h o).2) (2 * (h_k h o).2)) o).2) = Int32.ofNat (h_k h o).2 := by
    rw [ek]
    exact if_neg (fun z => by
      have := Int32.lt_iff_toInt_lt.mp z
      omega)
  show HJ 62 28 _ (.int (if xn < Int32.ofNat (h_k (h_new h 20 (2 * (h_k h o).2) (2 * (h_k h o).2)) o).2 then xn else Int32.ofNat (h_k (h_new h 20 (2 * (h_k h o).2) (2 * (h_k h o).2)) o).2) :: _) (h_new h 20 (2 * (h_k h o).2) (2 * (h_k h o).2)) Q
  rw [ew]
  have eN : (Int32.ofNat (h_k h o).2).toNatClampNeg = (h_k h o).2 := by
    show (Int32.ofNat (h_k h o).2).toInt.toNat = _
    omega
  have kN : h_k (h_new h 20 (2 * (h_k h o).2) (2 * (h_k h o).2)) (16 + h_n h) = (20, 2 * (h_k h o).2) := z_newk
  refine hI_cp (h' := h_cpi (h_new h 20 (2 * (h_k h o).2) (2 * (h_k h o).2)) o (16 + h_n h) 0 0 (h_k h o).2) rfl rfl ⟨o16, by omega, by decide, by decide, fun z => ?_, ?_, ?_, by decide +kernel, by decide +kernel, by decide +kernel⟩ (Or.inl ⟨by rw [ek, kc], by rw [kN], by rw [eN]; rfl⟩) rfl ?_
  · have := Int32.lt_iff_toInt_lt.mp z
    have h00 : (0 : Int32).toInt = 0 := rfl
    omega
  · rw [eN, ek]
    show 0 + (h_k h o).2 ≤ _
    omega
  · rw [eN, kN]
    show 0 + (h_k h o).2 ≤ 2 * (h_k h o).2
    omega
  · refine hI_al (k := 2) (x := 16 + h_n h) rfl rfl rfl ?_
    refine hI_ra rfl rfl (g _ rfl (fun a ha => ⟨nw_k (k := 20) (len := 2 * (h_k h o).2) (sz := 2 * (h_k h o).2) (by omega), fun k => nw_r (k := 20) (len := 2 * (h_k h o).2) (sz := 2 * (h_k h o).2) (by omega) k, fun j => ?_, fun j => nw_l (k := 20) (len := 2 * (h_k h o).2) (sz := 2 * (h_k h o).2) (by omega) j⟩) kN (fun j hj => ?_))
    · unfold z_i
      rw [s_cpI, if_neg (fun z => by have := z.1; omega), nw_i (by omega)]
    · unfold z_i
      rw [s_cpI, if_pos ⟨rfl, by omega, by omega⟩, nw_i (by omega)]
      simp
theorem s_cpL (h : MH) (a0 a1 s d n b j : Nat) : h_l (h_cpl h a0 a1 s d n) b j = if b = a1 ∧ (d ≤ j ∧ j < d + n) then h_l h a0 (s + (j - d)) else h_l h b j := by
  show m_u h.2.2.2.1 a1 (fun j => if d ≤ j ∧ j < d + n then h.2.2.2.1 a0 (s + (j - d)) else h.2.2.2.1 a1 j) b j = _
  unfold m_u
  by_cases e : b = a1
  · subst e
    rw [if_pos rfl]
    by_cases f : d ≤ j ∧ j < d + n
    · rw [if_pos f, if_pos ⟨rfl, f⟩]
      rfl
    · rw [if_neg f, if_neg (fun z => f z.2)]
      rfl
  · rw [if_neg e, if_neg (fun z => e z.1)]
    rfl
theorem k_copyL {o : Nat} {xn : Int32} (kc : (h_k h o).1 = 25) (o16 : 16 ≤ o) (ol : o < 16 + h_n h) (qn : xn.toInt = 2 * ((h_k h o).2 : Int)) (l0 : 1 ≤ (h_k h o).2) (l1 : (h_k h o).2 ≤ 16000) (g : ∀ h' : MH, h_n h' = h_n h + 1 → (∀ a, a < 16 + h_n h → h_k h' a = h_k h a ∧ (∀ k, h_r h' a k = h_r h a k) ∧ (∀ j, z_i h' a j = z_i h a j) ∧ ∀ j, h_l h' a j = h_l h a j) → h_k h' (16 + h_n h) = (25, 2 * (h_k h o).2) → (∀ j, j < (h_k h o).2 → h_l h' (16 + h_n h) j = h_l h o j) → Q (some (.ref (16 + h_n h))) h') : HJ 63 0 (lv_args 0 [.ref o, .int xn]) [] h Q := by
  have eL : (Int32.ofNat (h_k h o).2).toInt = ((h_k h o).2 : Int) := by
    rw [Int32.toInt_ofNat_of_lt]
    omega
  have hn : xn.toInt.toNat = 2 * (h_k h o).2 := by omega
  refine hI_il (k := 1) rfl rfl rfl ?_
  refine hI_al (k := 0) rfl rfl rfl ?_
  refine hI_len rfl (by rw [kc]; decide) rfl ?_
  refine hM_cne (t := 14) rfl qn eL (by decide) rfl (fun _ => ?_) (fun c => by omega)
  refine hI_il (k := 1) rfl rfl rfl ?_
  refine hI_newa (t := .long) rfl (by decide) (by omega) (by omega) rfl ?_
  rw [hn]
  have ek : h_k (h_new h 25 (2 * (h_k h o).2) (2 * (h_k h o).2)) o = h_k h o := nw_k (by omega)
  refine hI_as (k := 2) rfl (by decide +kernel) rfl ?_
  refine hI_al (k := 0) (x := o) rfl rfl rfl ?_
  refine hI_ic (n := 0) rfl rfl ?_
  refine hI_al (k := 2) (x := 16 + h_n h) rfl rfl rfl ?_
  refine hI_ic (n := 0) rfl rfl ?_
  refine hI_al (k := 0) (x := o) rfl rfl rfl ?_
  refine hI_len rfl ⟨by show 20 ≤ (h_k (h_new h 25 (2 * (h_k h o).2) (2 * (h_k h o).2)) o).1; rw [ek]; omega, by show (h_k (h_new h 25 (2 * (h_k h o).2) (2 * (h_k h o).2)) o).1 < 34; rw [ek]; omega⟩ rfl ?_
  refine hI_il (k := 1) (x := xn) rfl rfl rfl ?_
  refine hI_min rfl rfl ⟨rfl, by decide +kernel, by show 4 + 13 ≤ m_lo 63; decide +kernel⟩ rfl ?_
  have ew : (if xn < Int32.ofNat (h_k (h_new h 25 (2 * (h_k h o).2) (2 * (h_k h o).2)) o).2 then xn else Int32.ofNat (h_k (h_new h 25 (2 * (h_k h o).2) (2 * (h_k h o).2)) o).2) = Int32.ofNat (h_k h o).2 := by
    rw [ek]
    exact if_neg (fun z => by
      have := Int32.lt_iff_toInt_lt.mp z
      omega)
  show HJ 63 28 _ (.int (if xn < Int32.ofNat (h_k (h_new h 25 (2 * (h_k h o).2) (2 * (h_k h o).2)) o).2 then xn else Int32.ofNat (h_k (h_new h 25 (2 * (h_k h o).2) (2 * (h_k h o).2)) o).2) :: _) (h_new h 25 (2 * (h_k h o).2) (2 * (h_k h o).2)) Q
  rw [ew]
  have eN : (Int32.ofNat (h_k h o).2).toNatClampNeg = (h_k h o).2 := by
    show (Int32.ofNat (h_k h o).2).toInt.toNat = _
    omega
  have kN : h_k (h_new h 25 (2 * (h_k h o).2) (2 * (h_k h o).2)) (16 + h_n h) = (25, 2 * (h_k h o).2) := z_newk
  refine hI_cp (h' := h_cpl (h_new h 25 (2 * (h_k h o).2) (2 * (h_k h o).2)) o (16 + h_n h) 0 0 (h_k h o).2) rfl rfl ⟨o16, by omega, by decide, by decide, fun z => ?_, ?_, ?_, by decide +kernel, by decide +kernel, by decide +kernel⟩ (Or.inr ⟨by rw [ek, kc], by rw [kN], by rw [eN]; rfl⟩) rfl ?_
  · have := Int32.lt_iff_toInt_lt.mp z
    have h00 : (0 : Int32).toInt = 0 := rfl
    omega
  · rw [eN, ek]
    show 0 + (h_k h o).2 ≤ _
    omega
  · rw [eN, kN]
    show 0 + (h_k h o).2 ≤ 2 * (h_k h o).2
    omega
  · refine hI_al (k := 2) (x := 16 + h_n h) rfl rfl rfl ?_
    refine hI_ra rfl rfl (g _ rfl (fun a ha => ⟨nw_k (k := 25) (len := 2 * (h_k h o).2) (sz := 2 * (h_k h o).2) (by omega), fun k => nw_r (k := 25) (len := 2 * (h_k h o).2) (sz := 2 * (h_k h o).2) (by omega) k, fun j => congrArg Int32.toInt (nw_i (k := 25) (len := 2 * (h_k h o).2) (sz := 2 * (h_k h o).2) (by omega) j), fun j => ?_⟩) kN (fun j hj => ?_))
    · rw [s_cpL, if_neg (fun z => by have := z.1; omega), nw_l (by omega)]
    · rw [s_cpL, if_pos ⟨rfl, by omega, by omega⟩, nw_l (by omega)]
      simp
theorem r_fr0 {o : Nat} {f t z : Int} (M : RX h0 h H) (e0 : m_lk lv 0 = some (.ref o)) {lx1 : Int32} (e1 : m_lk lv 1 = some (.int lx1)) (lq1 : lx1.toInt = f) {lx2 : Int32} (e2 : m_lk lv 2 = some (.int lx2)) (lq2 : lx2.toInt = t) {lx3 : Int32} (e3 : m_lk lv 3 = some (.int lx3)) (lq3 : lx3.toInt = z)  (hz0 : 20 ≤ (h_k h0 o).1 ∧ (h_k h0 o).1 < 34) (hb0 : (h_k h0 o).2 < 2147483648)
    (g0 : ∀ x1 : Int32, x1.toInt = ((h_k h0 o).2 : Int) → HJ 38 0 (lv_args 0 [.int x1, .int lx1, .int lx2]) [] h (fun v h' => HJ 37 7 lv (v.toList ++ []) h' Q))
    : HJ 37 0 lv [] h Q := by
  refine hI_al (k := 0) rfl e0 rfl ?_ -- 0
  refine hR_al M hz0 hb0 rfl rfl (fun x1 q1 => ?_) -- 1
  refine hI_il (k := 1) rfl e1 rfl ?_ -- 2
  refine hI_il (k := 2) rfl e2 rfl ?_ -- 3
  refine hM_is0 (as := [.int x1, .int lx1, .int lx2]) (r := []) rfl rfl (by decide +kernel) rfl rfl rfl rfl rfl ?_ -- 4
  exact g0 x1 q1
theorem r_fr7 {o : Nat} {f t z : Int} (M : RX h0 h H) (e0 : m_lk lv 0 = some (.ref o)) {lx1 : Int32} (e1 : m_lk lv 1 = some (.int lx1)) (lq1 : lx1.toInt = f) {lx2 : Int32} (e2 : m_lk lv 2 = some (.int lx2)) (lq2 : lx2.toInt = t) {lx3 : Int32} (e3 : m_lk lv 3 = some (.int lx3)) (lq3 : lx3.toInt = z) 
    (g0 : ∀ lv1 : List (Nat × Value), m_lk lv1 0 = some (.ref o) → m_lk lv1 1 = some (.int lx1) → m_lk lv1 2 = some (.int lx2) → m_lk lv1 3 = some (.int lx3) → m_lk lv1 4 = some (.int lx1) → HJ 37 10 lv1 [] h Q)
    : HJ 37 7 lv [] h Q := by
  refine hI_il (k := 1) rfl e1 rfl ?_ -- 7
  refine hM_si2 (k := 4) rfl (by decide +kernel) rfl (fun lv1 e1_4 u1 => ?_) -- 8
  have e1_0 := u1 0 _ (by decide) (Or.inl rfl) e0
  have e1_1 := u1 1 _ (by decide) (Or.inl rfl) e1
  have e1_2 := u1 2 _ (by decide) (Or.inl rfl) e2
  have e1_3 := u1 3 _ (by decide) (Or.inl rfl) e3
  exact g0 lv1 e1_0 e1_1 e1_2 e1_3 e1_4
theorem r_fr10 {o : Nat} {t z i : Int} (M : RX h0 h H) (e0 : m_lk lv 0 = some (.ref o)) {lx2 : Int32} (e2 : m_lk lv 2 = some (.int lx2)) (lq2 : lx2.toInt = t) {lx3 : Int32} (e3 : m_lk lv 3 = some (.int lx3)) (lq3 : lx3.toInt = z) {lx4 : Int32} (e4 : m_lk lv 4 = some (.int lx4)) (lq4 : lx4.toInt = i) (i0 : 0 ≤ i) (t1 : t ≤ 1000000) (ha0 : (h_k h0 o).1 = 20) (hl0 : t ≤ ((h_k h0 o).2 : Int)) (hs0 : 16 ≤ o)
    (g0 : i ≥ t → Q none h)
    (g1 : ∀ h1 : MH, ∀ H1 : Nat → Nat → Int, H1 = m_u H o (m_u (H o) (i).toNat (z)) → ∀ x2 : Int32, x2.toInt = i + 1 → ∀ lv2 : List (Nat × Value), RX h0 h1 H1 → m_lk lv2 0 = some (.ref o) → m_lk lv2 2 = some (.int lx2) → m_lk lv2 3 = some (.int lx3) → m_lk lv2 4 = some (.int x2) → i < t → HJ 37 10 lv2 [] h1 Q)
    : HJ 37 10 lv [] h Q := by
  refine hI_il2 (k := 4) rfl e4 rfl ?_ -- 10
  refine hI_il (k := 2) rfl e2 rfl ?_ -- 12
  refine hM_cge (off := 14) (t := 27) rfl lq4 lq2 (by decide) rfl (fun c13 => ?_) (fun c13 => ?_) -- 13
  · refine hI_rv rfl rfl ?_
    exact g0 c13
  · refine hI_al (k := 0) rfl e0 rfl ?_ -- 16
    refine hI_il2 (k := 4) rfl e4 rfl ?_ -- 17
    refine hI_il (k := 3) rfl e3 rfl ?_ -- 19
    refine hR_is M hs0 ha0 lq4 lq3 (by omega) (by omega) rfl rfl (fun h1 H1 f1 M1 => ?_) -- 20
    refine hM_inc (k := 4) (z := 1) rfl e4 lq4 (by decide) (by omega) (by omega) (by decide +kernel) rfl (fun lv2 x2 q2 e2_4 u2 => ?_) -- 21
    have e2_0 := u2 0 _ (by decide) (Or.inl rfl) e0
    have e2_2 := u2 2 _ (by decide) (Or.inl rfl) e2
    have e2_3 := u2 3 _ (by decide) (Or.inl rfl) e3
    refine hI_go (pc' := 10) (off := (-14)) rfl (by decide) ?_ -- 24
    exact g1 h1 H1 f1 x2 q2 lv2 M1 e2_0 e2_2 e2_3 e2_4 c13
theorem r_fi0 {o : Nat} {z : Int} (M : RX h0 h H) (e0 : m_lk lv 0 = some (.ref o)) {lx1 : Int32} (e1 : m_lk lv 1 = some (.int lx1)) (lq1 : lx1.toInt = z)  (hz0 : 20 ≤ (h_k h0 o).1 ∧ (h_k h0 o).1 < 34) (hb0 : (h_k h0 o).2 < 2147483648)
    (g0 : ∀ x1 : Int32, x1.toInt = 0 → ∀ x3 : Int32, x3.toInt = ((h_k h0 o).2 : Int) → ∀ lv4 : List (Nat × Value), m_lk lv4 0 = some (.ref o) → m_lk lv4 1 = some (.int lx1) → m_lk lv4 2 = some (.int x1) → m_lk lv4 3 = some (.int x3) → HJ 48 5 lv4 [] h Q)
    : HJ 48 0 lv [] h Q := by
  refine hM_ic (n := 0) rfl (by decide) rfl (fun x1 q1 => ?_) -- 0
  refine hM_si (k := 2) rfl (by decide +kernel) rfl (fun lv2 e2_2 u2 => ?_) -- 1
  have e2_0 := u2 0 _ (by decide) (Or.inl rfl) e0
  have e2_1 := u2 1 _ (by decide) (Or.inl rfl) e1
  refine hI_al (k := 0) rfl e2_0 rfl ?_ -- 2
  refine hR_al M hz0 hb0 rfl rfl (fun x3 q3 => ?_) -- 3
  refine hM_si (k := 3) rfl (by decide +kernel) rfl (fun lv4 e4_3 u4 => ?_) -- 4
  have e4_0 := u4 0 _ (by decide) (Or.inl rfl) e2_0
  have e4_1 := u4 1 _ (by decide) (Or.inl rfl) e2_1
  have e4_2 := u4 2 _ (by decide) (Or.inl rfl) e2_2
  exact g0 x1 q1 x3 q3 lv4 e4_0 e4_1 e4_2 e4_3
theorem r_fi5 {o : Nat} {z i n : Int} (M : RX h0 h H) (e0 : m_lk lv 0 = some (.ref o)) {lx1 : Int32} (e1 : m_lk lv 1 = some (.int lx1)) (lq1 : lx1.toInt = z) {lx2 : Int32} (e2 : m_lk lv 2 = some (.int lx2)) (lq2 : lx2.toInt = i) {lx3 : Int32} (e3 : m_lk lv 3 = some (.int lx3)) (lq3 : lx3.toInt = n) (i0 : 0 ≤ i) (n1 : n ≤ 1000000) (ha0 : (h_k h0 o).1 = 20) (hl0 : n ≤ ((h_k h0 o).2 : Int)) (hs0 : 16 ≤ o)
    (g0 : i ≥ n → Q none h)
    (g1 : ∀ h1 : MH, ∀ H1 : Nat → Nat → Int, H1 = m_u H o (m_u (H o) (i).toNat (z)) → ∀ x2 : Int32, x2.toInt = i + 1 → ∀ lv2 : List (Nat × Value), RX h0 h1 H1 → m_lk lv2 0 = some (.ref o) → m_lk lv2 1 = some (.int lx1) → m_lk lv2 2 = some (.int x2) → m_lk lv2 3 = some (.int lx3) → i < n → HJ 48 5 lv2 [] h1 Q)
    : HJ 48 5 lv [] h Q := by
  refine hI_il (k := 2) rfl e2 rfl ?_ -- 5
  refine hI_il (k := 3) rfl e3 rfl ?_ -- 6
  refine hM_cge (off := 13) (t := 20) rfl lq2 lq3 (by decide) rfl (fun c7 => ?_) (fun c7 => ?_) -- 7
  · refine hI_rv rfl rfl ?_
    exact g0 c7
  · refine hI_al (k := 0) rfl e0 rfl ?_ -- 10
    refine hI_il (k := 2) rfl e2 rfl ?_ -- 11
    refine hI_il (k := 1) rfl e1 rfl ?_ -- 12
    refine hR_is M hs0 ha0 lq2 lq1 (by omega) (by omega) rfl rfl (fun h1 H1 f1 M1 => ?_) -- 13
    refine hM_inc (k := 2) (z := 1) rfl e2 lq2 (by decide) (by omega) (by omega) (by decide +kernel) rfl (fun lv2 x2 q2 e2_2 u2 => ?_) -- 14
    have e2_0 := u2 0 _ (by decide) (Or.inl rfl) e0
    have e2_1 := u2 1 _ (by decide) (Or.inl rfl) e1
    have e2_3 := u2 3 _ (by decide) (Or.inl rfl) e3
    refine hI_go (pc' := 5) (off := (-12)) rfl (by decide) ?_ -- 17
    exact g1 h1 H1 f1 x2 q2 lv2 M1 e2_0 e2_1 e2_2 e2_3 c7
theorem l_flR {o : Nat} {f t z : Int} {xt xz : Int32} {H0 : Nat → Nat → Int} (k20 : (h_k h0 o).1 = 20) (o16 : 16 ≤ o) (tl : t ≤ ((h_k h0 o).2 : Int)) (t1 : t ≤ 1000000) (f0 : 0 ≤ f) (qt : xt.toInt = t) (qz : xz.toInt = z) (g : ∀ (h' : MH) (H' : Nat → Nat → Int), RX h0 h' H' → (∀ a, a ≠ o → H' a = H0 a) → (∀ j : Nat, H' o j = if f ≤ (j : Int) ∧ (j : Int) < t then z else H0 o j) → Q none h') : ∀ (d : Nat) (i : Int) (lv : List (Nat × Value)) (h : MH) (H : Nat → Nat → Int) (xi : Int32), i + d = t → f ≤ i → xi.toInt = i → RX h0 h H → (∀ a, a ≠ o → H a = H0 a) → (∀ j : Nat, H o j = if f ≤ (j : Int) ∧ (j : Int) < i then z else H0 o j) → m_lk lv 0 = some (.ref o) → m_lk lv 2 = some (.int xt) → m_lk lv 3 = some (.int xz) → m_lk lv 4 = some (.int xi) → HJ 37 10 lv [] h Q := by
  intro d
  induction d with
  | zero =>
    intro i lv h H xi hd fi qi M p1 p2 e0 e2 e3 e4
    refine r_fr10 M e0 e2 qt e3 qz e4 qi (by omega) t1 k20 tl o16 (fun _ => g h H M p1 (fun j => ?_)) (fun _ _ _ _ _ _ _ _ _ _ _ c => absurd c (by omega))
    rw [p2 j, show i = t by omega]
  | succ d ih =>
    intro i lv h H xi hd fi qi M p1 p2 e0 e2 e3 e4
    refine r_fr10 M e0 e2 qt e3 qz e4 qi (by omega) t1 k20 tl o16 (fun c => absurd c (by omega)) (fun h1 H1 f1 x2 q2 lv2 M1 a0 a2 a3 a4 _ => ih (i + 1) lv2 h1 H1 x2 (by omega) (by omega) q2 M1 (fun a ha => by rw [f1, m_uN _ _ _ _ ha]; exact p1 a ha) (fun j => ?_) a0 a2 a3 a4)
    rw [f1, m_uE]
    by_cases e : j = i.toNat
    · rw [e, m_uE, if_pos (by omega)]
    · rw [m_uN _ _ _ _ e, p2 j]
      by_cases c : f ≤ (j : Int) ∧ (j : Int) < i
      · rw [if_pos c, if_pos (by omega)]
      · rw [if_neg c, if_neg (by omega)]
theorem k_fillr {o : Nat} {f t z : Int} {xf xt xz : Int32} (M : RX h0 h H) (k20 : (h_k h0 o).1 = 20) (o16 : 16 ≤ o) (lb : (h_k h0 o).2 ≤ 1000000) (qf : xf.toInt = f) (qt : xt.toInt = t) (qz : xz.toInt = z) (f0 : 0 ≤ f) (ft : f ≤ t) (tl : t ≤ ((h_k h0 o).2 : Int)) (g : ∀ (h' : MH) (H' : Nat → Nat → Int), RX h0 h' H' → (∀ a, a ≠ o → H' a = H a) → (∀ j : Nat, H' o j = if f ≤ (j : Int) ∧ (j : Int) < t then z else H o j) → Q none h') : HJ 37 0 (lv_args 0 [.ref o, .int xf, .int xt, .int xz]) [] h Q := by
  refine r_fr0 M rfl rfl qf rfl qt rfl qz (by omega) (by omega) (fun x1 q1 => c_rc (by omega) (by omega) (by omega) ?_)
  refine r_fr7 M rfl rfl qf rfl qt rfl qz (fun lv1 e0 e1 e2 e3 e4 => ?_)
  exact l_flR k20 o16 tl (by omega) f0 qt qz g (t - f).toNat f lv1 h H xf (by omega) (Int.le_refl _) qf M (fun _ _ => rfl) (fun j => by rw [if_neg (by omega)]) e0 e2 e3 e4
theorem l_fiR {o : Nat} {t z : Int} {xt xz : Int32} {H0 : Nat → Nat → Int} (k20 : (h_k h0 o).1 = 20) (o16 : 16 ≤ o) (tl : t = ((h_k h0 o).2 : Int)) (t1 : t ≤ 1000000) (qt : xt.toInt = t) (qz : xz.toInt = z) (g : ∀ (h' : MH) (H' : Nat → Nat → Int), RX h0 h' H' → (∀ a, a ≠ o → H' a = H0 a) → (∀ j : Nat, (j : Int) < t → H' o j = z) → Q none h') : ∀ (d : Nat) (i : Int) (lv : List (Nat × Value)) (h : MH) (H : Nat → Nat → Int) (xi : Int32), i + d = t → 0 ≤ i → xi.toInt = i → RX h0 h H → (∀ a, a ≠ o → H a = H0 a) → (∀ j : Nat, (j : Int) < i → H o j = z) → m_lk lv 0 = some (.ref o) → m_lk lv 1 = some (.int xz) → m_lk lv 2 = some (.int xi) → m_lk lv 3 = some (.int xt) → HJ 48 5 lv [] h Q := by
  intro d
  induction d with
  | zero =>
    intro i lv h H xi hd fi qi M p1 p2 e0 e1 e2 e3
    exact r_fi5 M e0 e1 qz e2 qi e3 qt fi t1 k20 (by omega) o16 (fun _ => g h H M p1 (fun j hj => p2 j (by omega))) (fun _ _ _ _ _ _ _ _ _ _ _ c => absurd c (by omega))
  | succ d ih =>
    intro i lv h H xi hd fi qi M p1 p2 e0 e1 e2 e3
    refine r_fi5 M e0 e1 qz e2 qi e3 qt fi t1 k20 (by omega) o16 (fun c => absurd c (by omega)) (fun h1 H1 f1 x2 q2 lv2 M1 a0 a1 a2 a3 _ => ih (i + 1) lv2 h1 H1 x2 (by omega) (by omega) q2 M1 (fun a ha => by rw [f1, m_uN _ _ _ _ ha]; exact p1 a ha) (fun j hj => ?_) a0 a1 a2 a3)
    rw [f1, m_uE]
    by_cases e : j = i.toNat
    · rw [e, m_uE]
    · rw [m_uN _ _ _ _ e]
      exact p2 j (by omega)
theorem k_fill {o : Nat} {z : Int} {xz : Int32} (M : RX h0 h H) (k20 : (h_k h0 o).1 = 20) (o16 : 16 ≤ o) (lb : (h_k h0 o).2 ≤ 1000000) (qz : xz.toInt = z) (g : ∀ (h' : MH) (H' : Nat → Nat → Int), RX h0 h' H' → (∀ a, a ≠ o → H' a = H a) → (∀ j : Nat, j < (h_k h0 o).2 → H' o j = z) → Q none h') : HJ 48 0 (lv_args 0 [.ref o, .int xz]) [] h Q := by
  refine r_fi0 M rfl rfl qz (by omega) (by omega) (fun x1 q1 x3 q3 lv4 e0 e1 e2 e3 => ?_)
  exact l_fiR (t := ((h_k h0 o).2 : Int)) k20 o16 rfl (by omega) q3 qz (fun h' H' M' p1 p2 => g h' H' M' p1 (fun j hj => p2 j (by omega))) (h_k h0 o).2 0 lv4 h H x1 (by omega) (Int.le_refl _) q1 M (fun _ _ => rfl) (fun j hj => by omega) e0 e1 e2 e3
-- A NODE MADE
theorem r_mk0 {nd : Nat} {w r : Int} (M : RX h0 h H) (e0 : m_lk lv 0 = some (.ref nd)) {lx1 : Int32} (e1 : m_lk lv 1 = some (.int lx1)) (lq1 : lx1.toInt = w) {lx2 : Int32} (e2 : m_lk lv 2 = some (.int lx2)) (lq2 : lx2.toInt = r)  (hk0 : (h_k h0 nd).1 = 3) (hz0 : 20 ≤ (h_k h0 (h_r h0 nd 1)).1 ∧ (h_k h0 (h_r h0 nd 1)).1 < 34) (hb0 : (h_k h0 (h_r h0 nd 1)).2 < 2147483648)
    (g0 : H nd 5 < ((h_k h0 (h_r h0 nd 1)).2 : Int) → HJ 61 48 lv [] h Q)
    (g1 : H nd 5 ≥ ((h_k h0 (h_r h0 nd 1)).2 : Int) → HJ 61 12 lv [] h Q)
    : HJ 61 0 lv [] h Q := by
  refine hI_al (k := 0) rfl e0 rfl ?_ -- 0
  refine hR_gi (c := 2) (k := 5) M hk0 rfl rfl rfl rfl (fun x1 q1 => ?_) -- 1
  have gb1 : -2147483648 ≤ H nd 5 ∧ H nd 5 ≤ 2147483647 := by rw [← q1]; exact g_iT _
  refine hI_al (k := 0) rfl e0 rfl ?_ -- 4
  refine hR_gr (c := 2) (k := 1) M hk0 rfl rfl rfl rfl ?_ -- 5
  refine hR_al M hz0 hb0 rfl rfl (fun x2 q2 => ?_) -- 8
  refine hM_clt (off := 39) (t := 48) rfl q1 q2 (by decide) rfl (fun c9 => ?_) (fun c9 => ?_) -- 9
  · exact g0 c9
  · exact g1 c9
theorem r_mk12 {nd : Nat} {w r : Int} (M : RX h0 h H) (e0 : m_lk lv 0 = some (.ref nd)) {lx1 : Int32} (e1 : m_lk lv 1 = some (.int lx1)) (lq1 : lx1.toInt = w) {lx2 : Int32} (e2 : m_lk lv 2 = some (.int lx2)) (lq2 : lx2.toInt = r) (l1 : ((h_k h0 (h_r h0 nd 0)).2 : Int) ≤ 224000) (hk0 : (h_k h0 nd).1 = 3) (hz0 : 20 ≤ (h_k h0 (h_r h0 nd 0)).1 ∧ (h_k h0 (h_r h0 nd 0)).1 < 34) (hb0 : (h_k h0 (h_r h0 nd 0)).2 < 2147483648)
    (g0 : ∀ x3 : Int32, x3.toInt = (((h_k h0 (h_r h0 nd 0)).2 : Int)) * 2 → HJ 62 0 (lv_args 0 [.ref (h_r h0 nd 0), .int x3]) [] h (fun v h' => HJ 61 27 lv (v.toList ++ [.ref nd]) h' Q))
    : HJ 61 12 lv [] h Q := by
  refine hI_al (k := 0) rfl e0 rfl ?_ -- 12
  refine hI_al (k := 0) rfl e0 rfl ?_ -- 13
  refine hR_gr (c := 2) (k := 0) M hk0 rfl rfl rfl rfl ?_ -- 14
  refine hI_al (k := 0) rfl e0 rfl ?_ -- 17
  refine hR_gr (c := 2) (k := 0) M hk0 rfl rfl rfl rfl ?_ -- 18
  refine hR_al M hz0 hb0 rfl rfl (fun x1 q1 => ?_) -- 21
  refine hM_ic (n := 2) rfl (by decide) rfl (fun x2 q2 => ?_) -- 22
  refine hM_mul rfl q1 q2 (by omega) (by omega) rfl (fun x3 q3 => ?_) -- 23
  refine hM_is0 (as := [.ref (h_r h0 nd 0), .int x3]) (r := [.ref nd]) rfl rfl (by decide +kernel) rfl rfl rfl rfl rfl ?_ -- 24
  exact g0 x3 q3
theorem r_mk30 {nd : Nat} {w r : Int} (M : RX h0 h H) (e0 : m_lk lv 0 = some (.ref nd)) {lx1 : Int32} (e1 : m_lk lv 1 = some (.int lx1)) (lq1 : lx1.toInt = w) {lx2 : Int32} (e2 : m_lk lv 2 = some (.int lx2)) (lq2 : lx2.toInt = r) (l1 : ((h_k h0 (h_r h0 nd 1)).2 : Int) ≤ 32000) (hk0 : (h_k h0 nd).1 = 3) (hz0 : 20 ≤ (h_k h0 (h_r h0 nd 1)).1 ∧ (h_k h0 (h_r h0 nd 1)).1 < 34) (hb0 : (h_k h0 (h_r h0 nd 1)).2 < 2147483648)
    (g0 : ∀ x3 : Int32, x3.toInt = (((h_k h0 (h_r h0 nd 1)).2 : Int)) * 2 → HJ 63 0 (lv_args 0 [.ref (h_r h0 nd 1), .int x3]) [] h (fun v h' => HJ 61 45 lv (v.toList ++ [.ref nd]) h' Q))
    : HJ 61 30 lv [] h Q := by
  refine hI_al (k := 0) rfl e0 rfl ?_ -- 30
  refine hI_al (k := 0) rfl e0 rfl ?_ -- 31
  refine hR_gr (c := 2) (k := 1) M hk0 rfl rfl rfl rfl ?_ -- 32
  refine hI_al (k := 0) rfl e0 rfl ?_ -- 35
  refine hR_gr (c := 2) (k := 1) M hk0 rfl rfl rfl rfl ?_ -- 36
  refine hR_al M hz0 hb0 rfl rfl (fun x1 q1 => ?_) -- 39
  refine hM_ic (n := 2) rfl (by decide) rfl (fun x2 q2 => ?_) -- 40
  refine hM_mul rfl q1 q2 (by omega) (by omega) rfl (fun x3 q3 => ?_) -- 41
  refine hM_is0 (as := [.ref (h_r h0 nd 1), .int x3]) (r := [.ref nd]) rfl rfl (by decide +kernel) rfl rfl rfl rfl rfl ?_ -- 42
  exact g0 x3 q3
theorem r_mk48 {nd : Nat} {w r : Int} (M : RX h0 h H) (e0 : m_lk lv 0 = some (.ref nd)) {lx1 : Int32} (e1 : m_lk lv 1 = some (.int lx1)) (lq1 : lx1.toInt = w) {lx2 : Int32} (e2 : m_lk lv 2 = some (.int lx2)) (lq2 : lx2.toInt = r) (m2 : H nd 5 ≤ 15999) (m0 : 0 ≤ H nd 5) (hk0 : (h_k h0 nd).1 = 3)
    (g0 : ∀ x1 : Int32, x1.toInt = H nd 5 → ∀ h6 : MH, ∀ H6 : Nat → Nat → Int, H6 = m_u H nd (m_u (H nd) 5 ((H nd 5) + 1)) → ∀ lv2 : List (Nat × Value), RX h0 h6 H6 → m_lk lv2 0 = some (.ref nd) → m_lk lv2 1 = some (.int lx1) → m_lk lv2 2 = some (.int lx2) → m_lk lv2 3 = some (.int x1) → HJ 61 69 lv2 [.long (Int64.ofNat (0 : Fin 2).val), .int x1, .ref (h_r h0 nd 1)] h6 Q)
    : HJ 61 48 lv [] h Q := by
  refine hI_al (k := 0) rfl e0 rfl ?_ -- 48
  refine hR_gi (c := 2) (k := 5) M hk0 rfl rfl rfl rfl (fun x1 q1 => ?_) -- 49
  have gb1 : -2147483648 ≤ H nd 5 ∧ H nd 5 ≤ 2147483647 := by rw [← q1]; exact g_iT _
  refine hM_si (k := 3) rfl (by decide +kernel) rfl (fun lv2 e2_3 u2 => ?_) -- 52
  have e2_0 := u2 0 _ (by decide) (Or.inl rfl) e0
  have e2_1 := u2 1 _ (by decide) (Or.inl rfl) e1
  have e2_2 := u2 2 _ (by decide) (Or.inl rfl) e2
  refine hI_al (k := 0) rfl e2_0 rfl ?_ -- 53
  refine hI_dup rfl rfl rfl ?_ -- 54
  refine hR_gi (c := 2) (k := 5) M hk0 rfl rfl rfl rfl (fun x3 q3 => ?_) -- 55
  have gb3 : -2147483648 ≤ H nd 5 ∧ H nd 5 ≤ 2147483647 := by rw [← q3]; exact g_iT _
  refine hM_ic (n := 1) rfl (by decide) rfl (fun x4 q4 => ?_) -- 58
  refine hM_add rfl q3 q4 (by omega) (by omega) rfl (fun x5 q5 => ?_) -- 59
  refine hR_pi (c := 2) (k := 5) M hk0 rfl rfl ⟨by decide, by decide +kernel, rfl⟩ q5 rfl (fun h6 H6 f6 M6 => ?_) -- 60
  refine hI_al (k := 0) rfl e2_0 rfl ?_ -- 63
  refine hR_gr (c := 2) (k := 1) M6 hk0 rfl rfl rfl rfl ?_ -- 64
  refine hI_il (k := 3) rfl e2_3 rfl ?_ -- 67
  refine hI_lc (n := 0) rfl rfl ?_ -- 68
  exact g0 x1 q1 h6 H6 f6 lv2 M6 e2_0 e2_1 e2_2 e2_3
theorem r_mk70 {nd : Nat} {w r n : Int} (M : RX h0 h H) (e0 : m_lk lv 0 = some (.ref nd)) {lx1 : Int32} (e1 : m_lk lv 1 = some (.int lx1)) (lq1 : lx1.toInt = w) {lx2 : Int32} (e2 : m_lk lv 2 = some (.int lx2)) (lq2 : lx2.toInt = r) {lx3 : Int32} (e3 : m_lk lv 3 = some (.int lx3)) (lq3 : lx3.toInt = n) (n0 : 0 ≤ n) (n1 : n ≤ 15999) (hk0 : (h_k h0 nd).1 = 3) (ha0 : (h_k h0 (h_r h0 nd 0)).1 = 20) (hl0 : 7 * n + 7 ≤ ((h_k h0 (h_r h0 nd 0)).2 : Int)) (hs0 : 16 ≤ h_r h0 nd 0)
    (g0 : ∀ x2 : Int32, x2.toInt = n * 7 → ∀ h6 : MH, ∀ H6 : Nat → Nat → Int, H6 = m_u H (h_r h0 nd 0) (m_u (H (h_r h0 nd 0)) ((n * 7) + 0).toNat (w)) → ∀ h9 : MH, ∀ H9 : Nat → Nat → Int, H9 = m_u H6 (h_r h0 nd 0) (m_u (H6 (h_r h0 nd 0)) ((n * 7) + 1).toNat (r)) → ∀ x11 : Int32, x11.toInt = (n * 7) + 2 → ∀ x13 : Int32, x13.toInt = (n * 7) + 7 → ∀ x14 : Int32, x14.toInt = (-1) → ∀ lv3 : List (Nat × Value), RX h0 h9 H9 → m_lk lv3 0 = some (.ref nd) → m_lk lv3 1 = some (.int lx1) → m_lk lv3 2 = some (.int lx2) → m_lk lv3 3 = some (.int lx3) → m_lk lv3 4 = some (.int x2) → HJ 37 0 (lv_args 0 [.ref (h_r h0 nd 0), .int x11, .int x13, .int x14]) [] h9 (fun v h' => HJ 61 113 lv3 (v.toList ++ []) h' Q))
    : HJ 61 70 lv [] h Q := by
  refine hI_il (k := 3) rfl e3 rfl ?_ -- 70
  refine hM_bp (n := 7) rfl (by decide) rfl (fun x1 q1 => ?_) -- 71
  refine hM_mul rfl lq3 q1 (by omega) (by omega) rfl (fun x2 q2 => ?_) -- 73
  refine hM_si2 (k := 4) rfl (by decide +kernel) rfl (fun lv3 e3_4 u3 => ?_) -- 74
  have e3_0 := u3 0 _ (by decide) (Or.inl rfl) e0
  have e3_1 := u3 1 _ (by decide) (Or.inl rfl) e1
  have e3_2 := u3 2 _ (by decide) (Or.inl rfl) e2
  have e3_3 := u3 3 _ (by decide) (Or.inl rfl) e3
  refine hI_al (k := 0) rfl e3_0 rfl ?_ -- 76
  refine hR_gr (c := 2) (k := 0) M hk0 rfl rfl rfl rfl ?_ -- 77
  refine hI_il2 (k := 4) rfl e3_4 rfl ?_ -- 80
  refine hM_ic (n := 0) rfl (by decide) rfl (fun x4 q4 => ?_) -- 82
  refine hM_add rfl q2 q4 (by omega) (by omega) rfl (fun x5 q5 => ?_) -- 83
  refine hI_il (k := 1) rfl e3_1 rfl ?_ -- 84
  refine hR_is M hs0 ha0 q5 lq1 (by omega) (by omega) rfl rfl (fun h6 H6 f6 M6 => ?_) -- 85
  refine hI_al (k := 0) rfl e3_0 rfl ?_ -- 86
  refine hR_gr (c := 2) (k := 0) M6 hk0 rfl rfl rfl rfl ?_ -- 87
  refine hI_il2 (k := 4) rfl e3_4 rfl ?_ -- 90
  refine hM_ic (n := 1) rfl (by decide) rfl (fun x7 q7 => ?_) -- 92
  refine hM_add rfl q2 q7 (by omega) (by omega) rfl (fun x8 q8 => ?_) -- 93
  refine hI_il (k := 2) rfl e3_2 rfl ?_ -- 94
  refine hR_is M6 hs0 ha0 q8 lq2 (by omega) (by omega) rfl rfl (fun h9 H9 f9 M9 => ?_) -- 95
  refine hI_al (k := 0) rfl e3_0 rfl ?_ -- 96
  refine hR_gr (c := 2) (k := 0) M9 hk0 rfl rfl rfl rfl ?_ -- 97
  refine hI_il2 (k := 4) rfl e3_4 rfl ?_ -- 100
  refine hM_ic (n := 2) rfl (by decide) rfl (fun x10 q10 => ?_) -- 102
  refine hM_add rfl q2 q10 (by omega) (by omega) rfl (fun x11 q11 => ?_) -- 103
  refine hI_il2 (k := 4) rfl e3_4 rfl ?_ -- 104
  refine hM_bp (n := 7) rfl (by decide) rfl (fun x12 q12 => ?_) -- 106
  refine hM_add rfl q2 q12 (by omega) (by omega) rfl (fun x13 q13 => ?_) -- 108
  refine hM_ic (n := (-1)) rfl (by decide) rfl (fun x14 q14 => ?_) -- 109
  refine hM_is0 (as := [.ref (h_r h0 nd 0), .int x11, .int x13, .int x14]) (r := []) rfl rfl (by decide +kernel) rfl rfl rfl rfl rfl ?_ -- 110
  exact g0 x2 q2 h6 H6 f6 h9 H9 f9 x11 q11 x13 q13 x14 q14 lv3 M9 e3_0 e3_1 e3_2 e3_3 e3_4
theorem r_mk113 {n : Int} (M : RX h0 h H) {lx3 : Int32} (e3 : m_lk lv 3 = some (.int lx3)) (lq3 : lx3.toInt = n) 
    (g0 : Q (some (.int lx3)) h)
    : HJ 61 113 lv [] h Q := by
  refine hI_il (k := 3) rfl e3 rfl ?_ -- 113
  refine hI_ri rfl rfl ?_ -- 114
  exact g0 
def mk_to (h h' : MH) (nd : Nat) (w r : Int) : Prop := nl_ok h' nd ∧ FX nd (fun _ => False) h h' ∧ z_i h' nd 5 = z_i h nd 5 + 1 ∧ (∀ k, k ≠ 5 → z_i h' nd k = z_i h nd k) ∧ (∀ j : Nat, (j : Int) < 7 * z_i h nd 5 → z_i h' (h_r h' nd 0) j = z_i h (h_r h nd 0) j) ∧ z_i h' (h_r h' nd 0) (7 * (z_i h nd 5).toNat) = w ∧ z_i h' (h_r h' nd 0) (7 * (z_i h nd 5).toNat + 1) = r ∧ (∀ j : Nat, (j : Int) < z_i h nd 5 → h_l h' (h_r h' nd 1) j = h_l h (h_r h nd 1) j) ∧ h_l h' (h_r h' nd 1) (z_i h nd 5).toNat = 0
theorem k_make48 {nd : Nat} {w r : Int} {xw xr : Int32} (ok : nl_ok h nd) (cap : z_i h nd 5 < ((h_k h (h_r h nd 1)).2 : Int)) (c2 : z_i h nd 5 ≤ 15999) (e0 : m_lk lv 0 = some (.ref nd)) (e1 : m_lk lv 1 = some (.int xw)) (qw : xw.toInt = w) (e2 : m_lk lv 2 = some (.int xr)) (qr : xr.toInt = r) (g : ∀ (x : Int32) (h' : MH), x.toInt = z_i h nd 5 → mk_to h h' nd w r → Q (some (.int x)) h') : HJ 61 48 lv [] h Q := by
  obtain ⟨⟨o1, o2, o3⟩, ⟨c1, c16, cl⟩, ⟨d1, d16, dl⟩, l1, ⟨m0, m1⟩, l2, l3⟩ := ok
  refine r_mk48 (RX.start h) e0 e1 qw e2 qr c2 m0 o1 (fun x1 q1 h6 H6 f6 lv2 M6 a0 a1 a2 a3 => ?_)
  have q1 : x1.toInt = z_i h nd 5 := q1
  obtain ⟨m61, m62, ⟨m63, m64⟩, m65⟩ := M6
  have n6 : h_n h6 = h_n h := by unfold h_n; rw [m61]
  refine hI_ls_ rfl d16 (by rw [m62]; exact d1) (by omega) (by rw [m62]; omega) rfl ?_
  have s7k : h_k (h_sl h6 (h_r h nd 1) x1.toInt.toNat (Int64.ofNat (0 : Fin 2).val)) = h_k h := m62
  have s7r : h_r (h_sl h6 (h_r h nd 1) x1.toInt.toNat (Int64.ofNat (0 : Fin 2).val)) = h_r h := m63
  have s7i : ∀ a j, z_i (h_sl h6 (h_r h nd 1) x1.toInt.toNat (Int64.ofNat (0 : Fin 2).val)) a j = H6 a j := m65
  have s7n : h_n (h_sl h6 (h_r h nd 1) x1.toInt.toNat (Int64.ofNat (0 : Fin 2).val)) = h_n h := n6
  have s7l : ∀ a j, h_l (h_sl h6 (h_r h nd 1) x1.toInt.toNat (Int64.ofNat (0 : Fin 2).val)) a j = if a = h_r h nd 1 ∧ j = x1.toInt.toNat then 0 else h_l h a j := fun a j => by
    show m_u h6.2.2.2.1 (h_r h nd 1) (m_u (h6.2.2.2.1 (h_r h nd 1)) x1.toInt.toNat (Int64.ofNat (0 : Fin 2).val)) a j = _
    have m64 : h6.2.2.2.1 = h_l h := m64
    rw [m64]
    by_cases ea : a = h_r h nd 1
    · subst ea
      rw [m_uE]
      by_cases ej : j = x1.toInt.toNat
      · rw [if_pos ⟨rfl, ej⟩, ej, m_uE]
        rfl
      · rw [if_neg (fun z => ej z.2), m_uN _ _ _ _ ej]
    · rw [if_neg (fun z => ea z.1), m_uN _ _ _ _ ea]
  generalize h_sl h6 (h_r h nd 1) x1.toInt.toNat (Int64.ofNat (0 : Fin 2).val) = h7 at s7k s7r s7i s7n s7l ⊢
  refine r_mk70 (nd := nd) (n := z_i h nd 5) (RX.start h7) a0 a1 qw a2 qr a3 q1 m0 c2 (by rw [s7k]; exact o1) (by rw [s7k, s7r]; exact c1) (by rw [s7k, s7r]; omega) (by rw [s7r]; exact c16) (fun x2 q2 h8 H8 f8 h9 H9 f9 x11 q11 x13 q13 x14 q14 lv3 M9 b0 b1 b2 b3 b4 => ?_)
  rw [s7r] at f8 f9 ⊢
  refine k_fillr (o := h_r h nd 0) M9 (by rw [s7k]; exact c1) c16 (by rw [s7k]; omega) q11 q13 q14 (by omega) (by omega) (by rw [s7k]; omega) (fun h' H' M' p1 p2 => r_mk113 M' b3 q1 (g x1 h' q1 ?_))
  have nC : nd ≠ h_r h nd 0 := fun z => by rw [← z] at c1; omega
  have e8 : ∀ a, a ≠ h_r h nd 0 → ∀ j, H' a j = H6 a j := fun a ha j => by
    rw [p1 a ha, f9, m_uN _ _ _ _ ha, f8, m_uN _ _ _ _ ha]
    exact s7i a j
  have r' : h_r h' = h_r h := M'.2.2.1.1.trans s7r
  have k' : h_k h' = h_k h := M'.2.1.trans s7k
  have l' : ∀ a j, h_l h' a j = if a = h_r h nd 1 ∧ j = x1.toInt.toNat then 0 else h_l h a j := fun a j => by rw [M'.2.2.1.2]; exact s7l a j
  have n' : h_n h' = h_n h := by
    have : h'.1 = h7.1 := M'.1
    unfold h_n at s7n ⊢
    rw [this, s7n]
  have i5 : z_i h' nd 5 = z_i h nd 5 + 1 := by
    rw [M'.zi, e8 nd nC, f6]
    rw [m_uE, m_uE]
    rfl
  have eC : ∀ j : Nat, z_i h' (h_r h nd 0) j = if z_i h nd 5 * 7 + 2 ≤ (j : Int) ∧ (j : Int) < z_i h nd 5 * 7 + 7 then -1 else if j = (z_i h nd 5 * 7 + 1).toNat then r else if j = (z_i h nd 5 * 7 + 0).toNat then w else z_i h (h_r h nd 0) j := fun j => by
    rw [M'.zi, p2 j]
    by_cases c : z_i h nd 5 * 7 + 2 ≤ (j : Int) ∧ (j : Int) < z_i h nd 5 * 7 + 7
    · rw [if_pos c, if_pos c]
    · rw [if_neg c, if_neg c, f9, m_uE]
      by_cases c : j = (z_i h nd 5 * 7 + 1).toNat
      · rw [if_pos c, c, m_uE]
      · rw [if_neg c, m_uN _ _ _ _ c, f8, m_uE]
        by_cases c : j = (z_i h nd 5 * 7 + 0).toNat
        · rw [if_pos c, c, m_uE]
        · rw [if_neg c, m_uN _ _ _ _ c]
          refine (s7i _ j).trans ?_
          rw [f6, m_uN _ _ _ _ (Ne.symm nC)]
          rfl
  have q1N : x1.toInt.toNat = (z_i h nd 5).toNat := by rw [q1]
  refine ⟨?_, ⟨by omega, ⟨fun k _ => Or.inl (by rw [r']), by omega, fun j hj => by rw [r', l', if_neg (fun z => by have := z.2; omega)], fun j h1 h2 => by rw [r', l', if_pos ⟨rfl, by omega⟩]⟩, fun a _ => ⟨by rw [k'], fun k _ => by rw [r'], fun hn => ⟨fun j => ?_, fun j => ?_⟩⟩⟩, i5, fun k hk => ?_, fun j hj => ?_, ?_, ?_, fun j hj => ?_, ?_⟩
  · unfold nl_ok
    rw [n', k', r', i5]
    exact ⟨⟨o1, o2, o3⟩, ⟨c1, c16, cl⟩, ⟨d1, d16, dl⟩, l1, ⟨by omega, by omega⟩, l2, l3⟩
  · have a1 : a ≠ nd := fun z => hn (Or.inl z)
    have a2 : a ≠ h_r h nd 0 := fun z => hn (Or.inr (Or.inl z))
    rw [M'.zi, e8 a a2, f6]
    rw [m_uN _ _ _ _ a1]
    rfl
  · rw [l', if_neg (fun z => hn (Or.inr (Or.inr (Or.inl z.1))))]
  · rw [M'.zi, e8 nd nC, f6]
    rw [m_uE, m_uN _ _ _ _ hk]
    rfl
  · rw [r', eC j, if_neg (by omega), if_neg (by omega), if_neg (by omega)]
  · rw [r', eC _, if_neg (by omega), if_neg (by omega), if_pos (by omega)]
  · rw [r', eC _, if_neg (by omega), if_pos (by omega)]
  · rw [r', l', if_neg (fun z => by have := z.2; omega)]
  · rw [r', l', if_pos ⟨rfl, q1N.symm⟩]
theorem k_make {nd : Nat} {w r : Int} {xw xr : Int32} (ok : nl_ok h nd) (c2 : z_i h nd 5 ≤ 15999) (qw : xw.toInt = w) (qr : xr.toInt = r) (g : ∀ (x : Int32) (h' : MH), x.toInt = z_i h nd 5 → mk_to h h' nd w r → Q (some (.int x)) h') : HJ 61 0 (lv_args 0 [.ref nd, .int xw, .int xr]) [] h Q := by
  have ok0 := ok
  obtain ⟨⟨o1, o2, o3⟩, ⟨c1, c16, cl⟩, ⟨d1, d16, dl⟩, l1, ⟨m0, m1⟩, l2, l3⟩ := ok
  refine r_mk0 (RX.start h) rfl rfl qw rfl qr o1 (by omega) (by omega) (fun c => k_make48 ok0 c c2 rfl rfl qw rfl qr g) (fun c => ?_)
  have c : z_i h nd 5 ≥ ((h_k h (h_r h nd 1)).2 : Int) := c
  refine r_mk12 (RX.start h) rfl rfl qw rfl qr (by omega) o1 (by omega) (by omega) (fun x3 q3 => k_copyI c1 c16 cl (by omega) (by omega) (by omega) (fun h1 n1 s1 k1 t1 => ?_))
  refine hI_pr (o := nd) rfl rfl (by decide +kernel) (by rw [(s1 nd o3).1]; exact o1) rfl ?_
  have f2r : ∀ a j, h_r (h_sr h1 nd 0 (16 + h_n h)) a j = if a = nd ∧ j = 0 then 16 + h_n h else h_r h1 a j := fun a j => s_srR _ _ _ _ _ _
  have f2k : ∀ a, h_k (h_sr h1 nd 0 (16 + h_n h)) a = h_k h1 a := fun _ => rfl
  have f2i : ∀ a j, z_i (h_sr h1 nd 0 (16 + h_n h)) a j = z_i h1 a j := fun _ _ => rfl
  have f2l : ∀ a j, h_l (h_sr h1 nd 0 (16 + h_n h)) a j = h_l h1 a j := fun _ _ => rfl
  have f2n : h_n (h_sr h1 nd 0 (16 + h_n h)) = h_n h + 1 := n1
  generalize h_sr h1 nd 0 (16 + h_n h) = h2 at f2r f2k f2i f2l f2n ⊢
  have r21 : h_r h2 nd 1 = h_r h nd 1 := by rw [f2r, if_neg (fun z => by have := z.2; omega)]; exact (s1 nd o3).2.1 1
  have kD : h_k h2 (h_r h nd 1) = h_k h (h_r h nd 1) := (f2k _).trans (s1 _ dl).1
  refine r_mk30 (nd := nd) (RX.start h2) rfl rfl qw rfl qr (by rw [r21, kD]; omega) (by rw [f2k, (s1 nd o3).1]; exact o1) (by rw [r21, kD]; omega) (by rw [r21, kD]; omega) (fun x4 q4 => ?_)
  rw [r21] at q4 ⊢
  rw [kD] at q4
  refine k_copyL (by rw [kD]; exact d1) d16 (by omega) (by rw [kD]; omega) (by rw [kD]; omega) (by rw [kD]; omega) (fun h3 n3 s3 k3 t3 => ?_)
  rw [kD] at k3 t3
  refine hI_pr (o := nd) rfl rfl (by decide +kernel) (by rw [(s3 nd (by omega)).1, f2k, (s1 nd o3).1]; exact o1) rfl ?_
  have f4r : ∀ a j, h_r (h_sr h3 nd 1 (16 + h_n h2)) a j = if a = nd ∧ j = 1 then 16 + h_n h2 else h_r h3 a j := fun a j => s_srR _ _ _ _ _ _
  have f4k : ∀ a, h_k (h_sr h3 nd 1 (16 + h_n h2)) a = h_k h3 a := fun _ => rfl
  have f4i : ∀ a j, z_i (h_sr h3 nd 1 (16 + h_n h2)) a j = z_i h3 a j := fun _ _ => rfl
  have f4l : ∀ a j, h_l (h_sr h3 nd 1 (16 + h_n h2)) a j = h_l h3 a j := fun _ _ => rfl
  have f4n : h_n (h_sr h3 nd 1 (16 + h_n h2)) = h_n h2 + 1 := n3
  generalize h_sr h3 nd 1 (16 + h_n h2) = h4 at f4r f4k f4i f4l f4n ⊢
  have K : ∀ a, a < 16 + h_n h → h_k h4 a = h_k h a := fun a ha => by rw [f4k, (s3 a (by omega)).1, f2k, (s1 a ha).1]
  have R : ∀ a j, a < 16 + h_n h → ¬ (a = nd ∧ j < 2) → h_r h4 a j = h_r h a j := fun a j ha hn => by rw [f4r, if_neg (fun z => hn ⟨z.1, by omega⟩), (s3 a (by omega)).2.1, f2r, if_neg (fun z => hn ⟨z.1, by omega⟩), (s1 a ha).2.1]
  have I : ∀ a j, a < 16 + h_n h → z_i h4 a j = z_i h a j := fun a j ha => by rw [f4i, (s3 a (by omega)).2.2.1, f2i, (s1 a ha).2.2.1]
  have L : ∀ a j, a < 16 + h_n h → h_l h4 a j = h_l h a j := fun a j ha => by rw [f4l, (s3 a (by omega)).2.2.2, f2l, (s1 a ha).2.2.2]
  have r40 : h_r h4 nd 0 = 16 + h_n h := by rw [f4r, if_neg (fun z => by have := z.2; omega), (s3 nd (by omega)).2.1, f2r, if_pos ⟨rfl, rfl⟩]
  have r41 : h_r h4 nd 1 = 16 + h_n h2 := by rw [f4r, if_pos ⟨rfl, rfl⟩]
  have kC : h_k h4 (16 + h_n h) = (20, 2 * (h_k h (h_r h nd 0)).2) := by rw [f4k, (s3 _ (by omega)).1, f2k]; exact k1
  have kE : h_k h4 (16 + h_n h2) = (25, 2 * (h_k h (h_r h nd 1)).2) := by rw [f4k]; exact k3
  have ok4 : nl_ok h4 nd := by
    unfold nl_ok
    rw [r40, r41, kC, kE, K nd o3, I nd 5 o3]
    exact ⟨⟨o1, o2, by omega⟩, ⟨rfl, by omega, by omega⟩, ⟨rfl, by omega, by omega⟩, by show 7 * (2 * _) = 2 * _; omega, ⟨m0, by show _ ≤ ((2 * _ : Nat) : Int); omega⟩, by show 64 ≤ 2 * _; omega, by show 2 * _ ≤ 32000; omega⟩
  refine k_make48 ok4 (by rw [r41, kE, I nd 5 o3]; show _ < ((2 * _ : Nat) : Int); omega) (by rw [I nd 5 o3]; exact c2) rfl rfl qw rfl qr (fun x h' qx T => g x h' (by rw [qx, I nd 5 o3]) ?_)
  obtain ⟨t1_, t2_, t3_, t4_, t5_, t6_, t7_, t8_, t9_⟩ := T
  rw [I nd 5 o3] at t3_ t5_ t6_ t7_ t8_ t9_
  obtain ⟨y1, ⟨y2, yx⟩, y3⟩ := t2_
  refine ⟨t1_, ⟨by omega, ⟨fun k hk => Or.inr ?_, by omega, fun j hj => ?_, fun j h1 h2 => by rw [show j = (z_i h nd 5).toNat by omega]; exact t9_⟩, fun a ha => ?_⟩, t3_, fun k hk => by rw [t4_ k hk, I nd k o3], fun j hj => ?_, t6_, t7_, fun j hj => ?_, t9_⟩
  · rcases y2 k hk with e | e
    · rw [e]
      rcases (show k = 0 ∨ k = 1 by omega) with z | z
      · rw [z, r40]
        omega
      · rw [z, r41]
        omega
    · omega
  · rw [t8_ j hj, r41, f4l, t3 j (by omega), f2l, (s1 _ dl).2.2.2]
  · obtain ⟨u1, u2, u3⟩ := y3 a (by omega)
    refine ⟨u1.trans (K a ha), fun k hk => (u2 k hk).trans (R a k ha hk), fun hn => ?_⟩
    obtain ⟨v1, v2⟩ := u3 (fun z => by
      rcases z with z | z | z | z
      · exact hn (Or.inl z)
      · rw [r40] at z
        omega
      · rw [r41] at z
        omega
      · exact z)
    exact ⟨fun j => (v1 j).trans (I a j ha), fun j => (v2 j).trans (L a j ha)⟩
  · rw [t5_ j hj, r40, f4i, (s3 _ (by omega)).2.2.1, f2i, t1 j (by omega)]
  · rw [t8_ j hj, r41, f4l, t3 j (by omega), f2l, (s1 _ dl).2.2.2]
end
