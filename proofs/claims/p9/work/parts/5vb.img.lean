-- ONE IMAGE TAKEN: all that is told elsewhere stays
section
variable {ρ ρ2 : Nat → Nat} {h h' h2 : MH} {a b k : Nat}
theorem td_cells (r0 : ∀ i, h_r h2 b i = h_r h b i) (r1 : ∀ i, h_r h2 (h_r h b 1) i = h_r h (h_r h b 1) i) (rr : ∀ r, r < 4 → ∀ i, h_r h2 (q_ac h b r) i = h_r h (q_ac h b r) i) (c0 : ∀ i, h_i h2 b i = h_i h b i) (ct : ∀ i, h_i h2 (h_r h b 0) i = h_i h (h_r h b 0) i) (cc : ∀ r, r < 4 → ∀ i, h_i h2 (q_ac h b r) i = h_i h (q_ac h b r) i) (ck : ∀ r, r < 4 → ∀ i, h_i h2 (h_r h (q_ac h b r) 0) i = h_i h (h_r h (q_ac h b r) 0) i) (cn : ∀ r, r < 4 → ∀ i, h_i h2 (h_r h (q_ac h b r) 1) i = h_i h (h_r h (q_ac h b r) 1) i) : td_same h h2 b := by
  refine ⟨fun K _ => c0 K, r0 0, fun j => ?_, fun r hr => ?_⟩
  · unfold q_tp
    rw [r0, ct]
  · have er : q_ac h2 b r = q_ac h b r := by
      unfold q_ac
      rw [r0, r1]
    refine ⟨er, cc r hr 2, ⟨rr r hr 0, rr r hr 1⟩, fun i => ⟨?_, ?_⟩⟩
    · unfold q_kd
      rw [rr r hr 0, ck r hr]
    · unfold q_nm
      rw [rr r hr 1, cn r hr]
theorem td_rs (e : td_same h h2 b) : td_refs h h2 b := ⟨e.2.1, fun r hr => ⟨(e.2.2.2 r hr).1, (e.2.2.2 r hr).2.2.1.1, (e.2.2.2 r hr).2.2.1.2⟩⟩
theorem ow_refs (er : ∀ x i, h_r h2 x i = h_r h x i) (w : ow_ne h a b) : ow_ne h2 a b := fun r s hr hs hn => by
  have ea : ∀ x r, q_ac h2 x r = q_ac h x r := fun x r => by
    unfold q_ac
    rw [er, er]
  rw [ea, ea, er, er, er, er]
  exact w r s hr hs hn
-- places: of an image, all ahead of what is new, none of them the row of images
def td_in (h : MH) (b : Nat) (P : Nat → Prop) : Prop := P b ∧ P (h_r h b 0) ∧ P (h_r h b 1) ∧ ∀ r, r < 4 → P (q_ac h b r) ∧ P (h_r h (q_ac h b r) 0) ∧ P (h_r h (q_ac h b r) 1)
theorem td_inI (ht : TH c_sp ρ h) (ho : ρ b = 97) (h16 : ρ 16 = 6) : td_in h b (fun x => x < 16 + h_n h ∧ x ≠ r_I h) := by
  have fI : ρ (r_I h) = 8 := (th_rf ht (R := 6) (by decide) rfl h16 (k := 1) rfl (fun z => by cases z)).2
  obtain ⟨o0, o1, oo⟩ := td_obI ht ho
  have lt : ∀ {x R : Nat}, ρ x = R → R ≠ 0 → R ≠ 8 → x < 16 + h_n h ∧ x ≠ r_I h := fun {x R} e n1 n2 => ⟨(ht.2 x (by rw [e]; exact n1)).1, ne_r e fI n2⟩
  refine ⟨lt ho (by decide) (by decide), lt o0 (by decide) (by decide), lt o1 (by decide) (by decide), fun r hr => ?_⟩
  obtain ⟨x1, x2, x3⟩ := oo r hr
  exact ⟨lt x1 (by decide) (by decide), lt x2 (by decide) (by decide), lt x3 (by decide) (by decide)⟩
-- ahead of the copy
theorem img_same (ht : TH c_sp ρ h) (h16 : ρ 16 = 6) (I : im_b ρ ρ2 h h' k) (ho : ρ b = 97) : td_same h h' b := by
  obtain ⟨-, -, -, -, u6, -⟩ := I
  obtain ⟨⟨l0, m0⟩, ⟨l1, m1⟩, ⟨l2, m2⟩, ll⟩ := td_inI ht ho h16
  have cr : ∀ {x : Nat}, x < 16 + h_n h → x ≠ r_I h → ∀ i, h_r h' x i = h_r h x i := fun {x} hx hn i => ((u6 x hx).2 i).2.2 (fun z => hn z.1)
  have ci : ∀ {x : Nat}, x < 16 + h_n h → ∀ i, h_i h' x i = h_i h x i := fun {x} hx i => ((u6 x hx).2 i).1
  exact td_cells (cr l0 m0) (cr l2 m2) (fun r hr => cr (ll r hr).1.1 (ll r hr).1.2) (ci l0) (ci l1) (fun r hr => ci (ll r hr).1.1) (fun r hr => ci (ll r hr).2.1.1) (fun r hr => ci (ll r hr).2.2.1)
-- a place that the copy doesn't reach
def ct_no (h : MH) (a x : Nat) : Prop := x ≠ a ∧ x ≠ h_r h a 0 ∧ ∀ s, s < 4 → x ≠ q_ac h a s ∧ x ≠ h_r h (q_ac h a s) 0 ∧ x ≠ h_r h (q_ac h a s) 1
theorem ct_same {c : Nat} (J : ct_I h' a c 4 h2) (n0 : ct_no h' a b) (n1 : ct_no h' a (h_r h' b 0)) (nn : ∀ r, r < 4 → ct_no h' a (q_ac h' b r) ∧ ct_no h' a (h_r h' (q_ac h' b r) 0) ∧ ct_no h' a (h_r h' (q_ac h' b r) 1)) : td_same h' h2 b := by
  obtain ⟨⟨-, -, j3⟩, -, -, -, j7⟩ := J
  have er : ∀ x i, h_r h2 x i = h_r h' x i := fun x i => (j3 x i).2
  have ci : ∀ {x : Nat}, ct_no h' a x → ∀ i, h_i h2 x i = h_i h' x i := fun {x} n i => j7 x n.1 n.2.1 n.2.2 i
  exact td_cells (er _) (er _) (fun _ _ => er _) (ci n0) (ci n1) (fun r hr => ci (nn r hr).1) (fun r hr => ci (nn r hr).2.1) (fun r hr => ci (nn r hr).2.2)
theorem img_pc {c j : Nat} (ht : TH c_sp ρ h) (h16 : ρ 16 = 6) (ow : t_ow ρ h) (k3 : k < 3) (I : im_b ρ ρ2 h h' k) (J : ct_I h' (h_r h' (r_I h) k) c 4 h2) (hj : j < 3) (hjk : j ≠ k) (h0 : r_im h j ≠ 0) : td_same h h2 (r_im h j) := by
  have oj := im_ob ht h16 j hj h0
  have s1 := img_same ht h16 I oj
  have rf := td_rs s1
  obtain ⟨⟨l0, m0⟩, ⟨l1, m1⟩, ⟨l2, m2⟩, ll⟩ := td_inI ht oj h16
  refine td_sameT s1 ?_
  by_cases e : h_r h (r_I h) k = 0
  · have a1 := I.2.2.2.1 e
    obtain ⟨w1, w2, w3⟩ := I.2.2.2.2.2 e
    have far : ∀ {x : Nat}, x < 16 + h_n h → ct_no h' (h_r h' (r_I h) k) x := fun {x} hx => ⟨by omega, by omega, fun s hs => by
      obtain ⟨y1, y2, y3⟩ := w2 s hs
      omega⟩
    refine ct_same J (far l0) (far (by rw [rf.1]; exact l1)) (fun r hr => ?_)
    obtain ⟨z1, z2, z3⟩ := rf.2 r hr
    rw [z1, z2, z3]
    exact ⟨far (ll r hr).1.1, far (ll r hr).2.1.1, far (ll r hr).2.2.1⟩
  · obtain ⟨e1, e2⟩ := I.2.2.1 e
    subst e1
    have ok := im_ob ht h16 k k3 e
    obtain ⟨wn, wt⟩ := ow.2.2 j k hj k3 h0 e
    obtain ⟨wa, wt⟩ := wt hjk
    obtain ⟨p0, p1, pp⟩ := td_obI ht oj
    obtain ⟨q0, q1, qq⟩ := td_obI ht ok
    have hd : r_im h' j ≠ r_im h' k ∨ True := Or.inr trivial
    refine ct_same J ⟨wa, ne_r oj q0 (by decide), fun s hs => ?_⟩ ⟨ne_r p0 ok (by decide), wt, fun s hs => ?_⟩ (fun r hr => ⟨⟨ne_r (pp r hr).1 ok (by decide), ne_r (pp r hr).1 q0 (by decide), fun s hs => ?_⟩, ⟨ne_r (pp r hr).2.1 ok (by decide), ne_r (pp r hr).2.1 q0 (by decide), fun s hs => ?_⟩, ⟨ne_r (pp r hr).2.2 ok (by decide), ne_r (pp r hr).2.2 q0 (by decide), fun s hs => ?_⟩⟩)
    · exact ⟨ne_r oj (qq s hs).1 (by decide), ne_r oj (qq s hs).2.1 (by decide), ne_r oj (qq s hs).2.2 (by decide)⟩
    · exact ⟨ne_r p0 (qq s hs).1 (by decide), ne_r p0 (qq s hs).2.1 (by decide), ne_r p0 (qq s hs).2.2 (by decide)⟩
    · obtain ⟨y1, y2, y3⟩ := wn r s hr hs (Or.inl wa)
      exact ⟨y1, ne_r (pp r hr).1 (qq s hs).2.1 (by decide), ne_r (pp r hr).1 (qq s hs).2.2 (by decide)⟩
    · obtain ⟨y1, y2, y3⟩ := wn r s hr hs (Or.inl wa)
      exact ⟨ne_r (pp r hr).2.1 (qq s hs).1 (by decide), y2, ne_r (pp r hr).2.1 (qq s hs).2.2 (by decide)⟩
    · obtain ⟨y1, y2, y3⟩ := wn r s hr hs (Or.inl wa)
      exact ⟨ne_r (pp r hr).2.2 (qq s hs).1 (by decide), ne_r (pp r hr).2.2 (qq s hs).2.1 (by decide), y3⟩
-- rows of acts are apart, with the new image too
theorem img_ow {c : Nat} (ht : TH c_sp ρ h) (h16 : ρ 16 = 6) (ow : t_ow ρ h) (k3 : k < 3) (I : im_b ρ ρ2 h h' k) (J : ct_I h' (h_r h' (r_I h) k) c 4 h2) (eN : h_r h2 16 0 = h_r h 16 0) (h162 : ρ2 16 = 6) (own : r_im h2 k = h_r h' (r_I h) k) (oth : ∀ j, j ≠ k → r_im h2 j = r_im h j) : t_ow ρ2 h2 := by
  have fN := nw_ob ht h16
  have er : ∀ x i, h_r h2 x i = h_r h' x i := fun x i => (J.1.2.2 x i).2
  have l16 := (ht.2 16 (by rw [h16]; decide)).1
  have rN := td_rfN ht I.1.1 (by decide +kernel) fN
  refine ⟨h162, by rw [eN]; exact ow_refs er (ow_sameR rN rN ow.2.1), fun j l hj hl h0 h1 => ?_⟩
  by_cases e : h_r h (r_I h) k = 0
  · have a1 := I.2.2.2.1 e
    obtain ⟨w1, w2, w3⟩ := I.2.2.2.2.2 e
    -- an image that was there
    have old : ∀ j, j < 3 → j ≠ k → r_im h2 j ≠ 0 → r_im h2 j = r_im h j ∧ td_refs h h' (r_im h j) ∧ td_in h (r_im h j) (fun x => x < 16 + h_n h ∧ x ≠ r_I h) := fun j hj hjk h0 => by
      rw [oth j hjk] at h0
      have oj := im_ob ht h16 j hj h0
      exact ⟨oth j hjk, td_rs (img_same ht h16 I oj), td_inI ht oj h16⟩
    by_cases ej : j = k
    · subst ej
      by_cases el : l = j
      · subst el
        rw [own]
        exact ⟨ow_refs er w3, fun z => absurd rfl z⟩
      · obtain ⟨y1, y2, ⟨l0, -⟩, ⟨l1, -⟩, -, ll⟩ := old l hl el h1
        rw [own, y1]
        refine ⟨ow_refs er (fun r s hr hs _ => ?_), fun _ => ⟨by omega, ?_⟩⟩
        · obtain ⟨v1, v2, v3⟩ := w2 r hr
          obtain ⟨z1, z2, z3⟩ := y2.2 s hs
          obtain ⟨⟨g1, -⟩, ⟨g2, -⟩, ⟨g3, -⟩⟩ := ll s hs
          rw [z1, z2, z3]
          omega
        · rw [er, er, y2.1]
          omega
    · obtain ⟨x1, x2, ⟨l0, -⟩, ⟨l1, -⟩, -, ll⟩ := old j hj ej h0
      by_cases el : l = k
      · subst el
        rw [own, x1]
        refine ⟨ow_refs er (fun r s hr hs _ => ?_), fun _ => ⟨by omega, ?_⟩⟩
        · obtain ⟨v1, v2, v3⟩ := w2 s hs
          obtain ⟨z1, z2, z3⟩ := x2.2 r hr
          obtain ⟨⟨g1, -⟩, ⟨g2, -⟩, ⟨g3, -⟩⟩ := ll r hr
          rw [z1, z2, z3]
          omega
        · rw [er, er, x2.1]
          omega
      · obtain ⟨y1, y2, -⟩ := old l hl el h1
        rw [x1] at h0
        rw [y1] at h1
        rw [x1, y1]
        obtain ⟨v1, v2⟩ := ow.2.2 j l hj hl h0 h1
        exact ⟨ow_refs er (ow_sameR x2 y2 v1), fun z => ⟨(v2 z).1, by rw [er, er, x2.1, y2.1]; exact (v2 z).2⟩⟩
  · obtain ⟨e1, e2⟩ := I.2.2.1 e
    subst e1
    have ei : ∀ j, r_im h2 j = r_im h' j := fun j => by
      by_cases ej : j = k
      · rw [ej]
        exact own
      · exact oth j ej
    rw [ei] at h0 h1
    rw [ei, ei]
    obtain ⟨v1, v2⟩ := ow.2.2 j l hj hl h0 h1
    exact ⟨ow_refs er v1, fun z => ⟨(v2 z).1, by rw [er, er]; exact (v2 z).2⟩⟩
end
