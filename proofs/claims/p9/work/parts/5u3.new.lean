-- A PAST FOR A ROW, where it lies
def pf_E (h : MH) (k p : Nat) (h' : MH) : Prop := (r_sl h k ≠ 0 ∧ p = r_sl h k ∧ h' = h) ∨ (r_sl h k = 0 ∧ p = 16 + h_n h + 0 ∧ ∃ h2, SX h h2 past_D past_Z ∧ h' = h_sr h2 (r_P h) k (16 + h_n h + 0))
section
variable {h : MH} {Q : Option Value → MH → Prop} {ρ : Nat → Nat}
theorem r_pastFor {x1 : Int32} (ht : TH c_sp ρ h) (hm : ρ 16 = 6) (b0 : 0 ≤ x1.toInt) (b3 : x1.toInt ≤ 3) (g : ∀ (h' : MH) (p : Nat), pf_E h x1.toInt.toNat p h' → Q (some (.ref p)) h') : HJ 41 0 (lv_args 0 [.ref 16, .int x1]) [] h Q := by
  have fP : ρ (r_P h) = 9 := (th_rf ht (R := 6) (by decide) rfl hm (k := 2) rfl (fun z => by cases z)).2
  have k16 : (h_k h 16).1 = 9 := (t_spec ht (by decide) (rfl : c_sp[6]? = some _) hm).1
  have cP := t_spec ht (by decide) (rfl : c_sp[9]? = some _) fP
  have kP : (h_k h (r_P h)).1 = 31 := cP.1
  have lP : 4 ≤ (h_k h (r_P h)).2 := cP.2.1.1
  have P16 : 16 ≤ r_P h := cP.2.2.1 rfl
  have Pl : r_P h < 16 + h_n h := (ht.2 _ (by rw [fP]; decide)).1
  have l16 : 16 < 16 + h_n h := (ht.2 _ (by rw [hm]; decide)).1
  have ne16 : (16 : Nat) ≠ r_P h := fun z => by rw [← z, hm] at fP; cases fP
  have el : t_rf ρ 29 false (h_r h (r_P h) x1.toInt.toNat) := cP.2.2.2 x1.toInt.toNat (.inr (.inr (29, false))) rfl (fun _ => by omega)
  have el16 : h_r h (r_P h) x1.toInt.toNat = 0 ∨ 16 ≤ h_r h (r_P h) x1.toInt.toNat := by
    rcases el with q | ⟨-, -, q⟩
    · exact Or.inl q.1
    · exact Or.inr ((t_spec ht (by decide) (rfl : c_sp[29]? = some _) q).2.2.1 rfl)
  refine hI_al (k := 0) rfl rfl rfl ?_
  refine hI_gr rfl rfl rfl k16 rfl ?_
  refine hI_il (k := 1) rfl rfl rfl ?_
  refine hI_aa (o := r_P h) rfl ⟨by rw [kP]; decide, by rw [kP]; decide⟩ b0 (by omega) rfl ?_
  refine hI_nn (t := 22) rfl (by decide) rfl el16 (fun hne => ?_) (fun he => ?_)
  · refine hI_al (k := 0) rfl rfl rfl ?_
    refine hI_gr rfl rfl rfl k16 rfl ?_
    refine hI_il (k := 1) rfl rfl rfl ?_
    refine hI_aa (o := r_P h) rfl ⟨by rw [kP]; decide, by rw [kP]; decide⟩ b0 (by omega) rfl ?_
    exact hI_ra rfl rfl (g h _ (Or.inl ⟨hne, rfl, rfl⟩))
  · refine hI_al (k := 0) rfl rfl rfl ?_
    refine hI_gr rfl rfl rfl k16 rfl ?_
    refine hI_il (k := 1) rfl rfl rfl ?_
    refine hS_new (c := 3) (j := 0) (sx_start (h := h)) rfl rfl (by decide) rfl rfl (fun h1 S1 => ?_)
    have S2 : SX h h1 [((4, 14), [])] 14 := sx_eq S1 (by decide +kernel)
    refine hI_dup rfl rfl rfl ?_
    refine hS_call (j := 42) (q := 0) S2 rfl rfl (by decide +kernel) rfl (by decide) rfl (by decide +kernel) rfl (by show 3 ≤ 8; decide) (by decide +kernel) rfl ?_
    refine c_past S2 (fun h2 S => ?_)
    show HJ 41 21 _ [.ref (16 + h_n h + 0), .int x1, .ref (r_P h)] h2 Q
    have c0 := S.2.2 0 _ rfl
    have kP2 : (h_k h2 (r_P h)).1 = 31 ∧ 4 ≤ (h_k h2 (r_P h)).2 := by rw [(S.2.1 _ Pl).1]; exact ⟨kP, lP⟩
    refine hI_aast (o := r_P h) (x := 16 + h_n h + 0) rfl P16 (by rw [kP2.1]; decide) b0 (by have := kP2.2; omega) (by omega) (by rw [c0.1, kP2.1]; rfl) rfl ?_
    have E9 : pf_E h x1.toInt.toNat (16 + h_n h + 0) (h_sr h2 (r_P h) x1.toInt.toNat (16 + h_n h + 0)) := Or.inr ⟨he, rfl, h2, S, rfl⟩
    generalize hh : h_sr h2 (r_P h) x1.toInt.toNat (16 + h_n h + 0) = h3 at E9 ⊢
    have s3k : ∀ a, h_k h3 a = h_k h2 a := fun a => by rw [← hh]; rfl
    have s3r : ∀ a j, ¬ (a = r_P h ∧ j = x1.toInt.toNat) → h_r h3 a j = h_r h2 a j := fun a j hn => by rw [← hh, s_srR, if_neg hn]
    have s30 : h_r h3 (r_P h) x1.toInt.toNat = 16 + h_n h + 0 := by rw [← hh, s_srR, if_pos ⟨rfl, rfl⟩]
    refine hI_al (k := 0) rfl rfl rfl ?_
    refine hI_gr rfl rfl rfl (by rw [s3k, (S.2.1 16 l16).1]; exact k16) rfl ?_
    rw [s3r 16 _ (fun z => ne16 z.1), ((S.2.1 16 l16).2 _).2.2]
    refine hI_il (k := 1) rfl rfl rfl ?_
    refine hI_aa (o := r_P h) rfl (by rw [s3k, kP2.1]; decide) b0 (by rw [s3k]; have := kP2.2; omega) rfl ?_
    rw [s30]
    exact hI_ra rfl rfl (g h3 _ E9)
end
-- a new past's rows, one behind the other
def past_X (i : Nat) : Nat := if i < 18 then [7, 8, 9, 10, 11, 12, 13, 66, 67, 4, 5, 2, 62, 63, 64, 65, 16, 17].getD i 0 else i + 3
theorem past_Xn : ∀ i, i < 59 → ∀ j, j < 59 → i ≠ j → past_X i ≠ past_X j := by decide +kernel
theorem past_gl : ∀ v, v < 41 → m_lk (nx_gl 20 41) v = some (21 + v) := by decide +kernel
theorem past_at {h h2 : MH} (S : SX h h2 past_D past_Z) : (h_r h2 (16 + h_n h + 0) 0 = 16 + h_n h + 1 ∧ h_r h2 (16 + h_n h + 0) 1 = 16 + h_n h + 15 ∧ h_r h2 (16 + h_n h + 1) 4 = 16 + h_n h + 6 ∧ h_r h2 (16 + h_n h + 15) 2 = 16 + h_n h + 18) ∧ ∀ i, i < 59 → pa_w h2 (16 + h_n h + 0) i = 16 + h_n h + past_X i := by
  have c0 := S.2.2 0 _ rfl
  have c1 := S.2.2 1 _ rfl
  have c6 := S.2.2 6 _ rfl
  have c15 := S.2.2 15 _ rfl
  have c20 := S.2.2 20 _ rfl
  have p0 : h_r h2 (16 + h_n h + 0) 0 = 16 + h_n h + 1 := ((c0.2 0 (by decide)).2 (Or.inl (by decide)))
  have p1 : h_r h2 (16 + h_n h + 0) 1 = 16 + h_n h + 15 := ((c0.2 1 (by decide)).2 (Or.inl (by decide)))
  have p2 : h_r h2 (16 + h_n h + 0) 2 = 16 + h_n h + 20 := ((c0.2 2 (by decide)).2 (Or.inl (by decide)))
  have p3 : h_r h2 (16 + h_n h + 0) 3 = 16 + h_n h + 62 := ((c0.2 3 (by decide)).2 (Or.inl (by decide)))
  have p4 : h_r h2 (16 + h_n h + 0) 4 = 16 + h_n h + 63 := ((c0.2 4 (by decide)).2 (Or.inl (by decide)))
  have p5 : h_r h2 (16 + h_n h + 0) 5 = 16 + h_n h + 64 := ((c0.2 5 (by decide)).2 (Or.inl (by decide)))
  have p6 : h_r h2 (16 + h_n h + 0) 6 = 16 + h_n h + 65 := ((c0.2 6 (by decide)).2 (Or.inl (by decide)))
  have p7 : h_r h2 (16 + h_n h + 0) 7 = 16 + h_n h + 66 := ((c0.2 7 (by decide)).2 (Or.inl (by decide)))
  have p8 : h_r h2 (16 + h_n h + 0) 8 = 16 + h_n h + 67 := ((c0.2 8 (by decide)).2 (Or.inl (by decide)))
  have n0 : h_r h2 (16 + h_n h + 1) 0 = 16 + h_n h + 2 := ((c1.2 0 (by decide)).2 (Or.inl (by decide)))
  have n2 : h_r h2 (16 + h_n h + 1) 2 = 16 + h_n h + 4 := ((c1.2 2 (by decide)).2 (Or.inl (by decide)))
  have n3 : h_r h2 (16 + h_n h + 1) 3 = 16 + h_n h + 5 := ((c1.2 3 (by decide)).2 (Or.inl (by decide)))
  have n4 : h_r h2 (16 + h_n h + 1) 4 = 16 + h_n h + 6 := ((c1.2 4 (by decide)).2 (Or.inl (by decide)))
  have w0 : h_r h2 (16 + h_n h + 6) 0 = 16 + h_n h + 7 := ((c6.2 0 (by decide)).2 (Or.inl (by decide)))
  have w1 : h_r h2 (16 + h_n h + 6) 1 = 16 + h_n h + 8 := ((c6.2 1 (by decide)).2 (Or.inl (by decide)))
  have w2 : h_r h2 (16 + h_n h + 6) 2 = 16 + h_n h + 9 := ((c6.2 2 (by decide)).2 (Or.inl (by decide)))
  have w3 : h_r h2 (16 + h_n h + 6) 3 = 16 + h_n h + 10 := ((c6.2 3 (by decide)).2 (Or.inl (by decide)))
  have w4 : h_r h2 (16 + h_n h + 6) 4 = 16 + h_n h + 11 := ((c6.2 4 (by decide)).2 (Or.inl (by decide)))
  have w5 : h_r h2 (16 + h_n h + 6) 5 = 16 + h_n h + 12 := ((c6.2 5 (by decide)).2 (Or.inl (by decide)))
  have w6 : h_r h2 (16 + h_n h + 6) 6 = 16 + h_n h + 13 := ((c6.2 6 (by decide)).2 (Or.inl (by decide)))
  have l0 : h_r h2 (16 + h_n h + 15) 0 = 16 + h_n h + 16 := ((c15.2 0 (by decide)).2 (Or.inl (by decide)))
  have l1 : h_r h2 (16 + h_n h + 15) 1 = 16 + h_n h + 17 := ((c15.2 1 (by decide)).2 (Or.inl (by decide)))
  have l2 : h_r h2 (16 + h_n h + 15) 2 = 16 + h_n h + 18 := ((c15.2 2 (by decide)).2 (Or.inl (by decide)))
  refine ⟨⟨p0, p1, n4, l2⟩, fun i hi => ?_⟩
  by_cases h18 : i < 18
  · match i, h18 with
    | 0, _ =>
      show h_r h2 (h_r h2 (h_r h2 (16 + h_n h + 0) 0) 4) 0 = _
      rw [p0, n4]
      exact w0
    | 1, _ =>
      show h_r h2 (h_r h2 (h_r h2 (16 + h_n h + 0) 0) 4) 1 = _
      rw [p0, n4]
      exact w1
    | 2, _ =>
      show h_r h2 (h_r h2 (h_r h2 (16 + h_n h + 0) 0) 4) 2 = _
      rw [p0, n4]
      exact w2
    | 3, _ =>
      show h_r h2 (h_r h2 (h_r h2 (16 + h_n h + 0) 0) 4) 3 = _
      rw [p0, n4]
      exact w3
    | 4, _ =>
      show h_r h2 (h_r h2 (h_r h2 (16 + h_n h + 0) 0) 4) 4 = _
      rw [p0, n4]
      exact w4
    | 5, _ =>
      show h_r h2 (h_r h2 (h_r h2 (16 + h_n h + 0) 0) 4) 5 = _
      rw [p0, n4]
      exact w5
    | 6, _ =>
      show h_r h2 (h_r h2 (h_r h2 (16 + h_n h + 0) 0) 4) 6 = _
      rw [p0, n4]
      exact w6
    | 7, _ =>
      exact p7
    | 8, _ =>
      exact p8
    | 9, _ =>
      show h_r h2 (h_r h2 (16 + h_n h + 0) 0) 2 = _
      rw [p0]
      exact n2
    | 10, _ =>
      show h_r h2 (h_r h2 (16 + h_n h + 0) 0) 3 = _
      rw [p0]
      exact n3
    | 11, _ =>
      show h_r h2 (h_r h2 (16 + h_n h + 0) 0) 0 = _
      rw [p0]
      exact n0
    | 12, _ =>
      exact p3
    | 13, _ =>
      exact p4
    | 14, _ =>
      exact p5
    | 15, _ =>
      exact p6
    | 16, _ =>
      show h_r h2 (h_r h2 (16 + h_n h + 0) 1) 0 = _
      rw [p1]
      exact l0
    | 17, _ =>
      show h_r h2 (h_r h2 (16 + h_n h + 0) 1) 1 = _
      rw [p1]
      exact l1
    | q + 18, z => exact absurd z (by omega)
  · have e : pa_w h2 (16 + h_n h + 0) i = h_r h2 (h_r h2 (16 + h_n h + 0) 2) (i - 18) := by
      unfold pa_w
      rw [if_neg (by omega), if_neg (by omega), if_neg (by omega), if_neg (by omega), if_neg (by omega), if_neg (by omega), if_neg (by omega), if_neg h18]
    have e2 : past_X i = i + 3 := if_neg h18
    rw [e, e2, p2]
    have c := (c20.2 (i - 18) (by omega)).2 (Or.inr (by decide))
    rw [c]
    unfold nc_r
    dsimp only
    rw [past_gl (i - 18) (by omega)]
    show 16 + h_n h + (21 + (i - 18)) = 16 + h_n h + (i + 3)
    omega
-- pasts stand apart, with the new one too; all others stay
theorem nx_ne {a n c : Nat} (h : a < 16 + n) : 16 + n + c ≠ a := by omega
theorem nx_ne2 {a n c : Nat} (h : a < 16 + n) : a ≠ 16 + n + c := by omega
theorem nx_n0 {n c : Nat} : 16 + n + c ≠ 0 := by omega
set_option maxHeartbeats 4000000 in
theorem pf_pl {ρ : Nat → Nat} {h h' : MH} {k p : Nat} (ht : TH c_sp ρ h) (h16 : ρ 16 = 6) (hk : k < 4) (pl : pl_t h) (E : pf_E h k p h') : (p ≠ 0 ∧ r_sl h' k = p) ∧ pl_t h' ∧ (∀ j, j ≠ k → r_sl h' j = r_sl h j) ∧ ∀ j, j < 4 → r_sl h j ≠ 0 → r_sl h' j = r_sl h j ∧ ∀ Y, bk_0 h (r_sl h j) Y → bk_0 h' (r_sl h j) Y := by
  rcases E with ⟨e1, e2, e3⟩ | ⟨e1, e2, h2, S, e3⟩
  · subst e2 e3
    exact ⟨⟨e1, rfl⟩, pl, fun _ _ => rfl, fun _ _ _ => ⟨rfl, fun _ b => b⟩⟩
  · subst e2
    have fP : ρ (r_P h) = 9 := (th_rf ht (R := 6) (by decide) rfl h16 (k := 2) rfl (fun z => by cases z)).2
    have lt : ∀ {x : Nat}, ρ x ≠ 0 → x < 16 + h_n h := fun {x} hx => (ht.2 x hx).1
    have Pl := lt (by rw [fP]; decide : ρ (r_P h) ≠ 0)
    have lr : ∀ a j, a < 16 + h_n h → ¬ (a = r_P h ∧ j = k) → h_r h' a j = h_r h a j := fun a j ha hn => by rw [e3, s_srR, if_neg hn]; exact ((S.2.1 a ha).2 j).2.2
    have li : ∀ a j, a < 16 + h_n h → h_i h' a j = h_i h a j := fun a j ha => by rw [e3]; exact ((S.2.1 a ha).2 j).1
    have ll : ∀ a j, a < 16 + h_n h → h_l h' a j = h_l h a j := fun a j ha => by rw [e3]; exact ((S.2.1 a ha).2 j).2.1
    have eP : r_P h' = r_P h := lr 16 2 (lt (by rw [h16]; decide)) (fun z => by have := z.1; rw [← this, h16] at fP; cases fP)
    have esk : r_sl h' k = 16 + h_n h + 0 := by
      unfold r_sl
      rw [eP, e3, s_srR, if_pos ⟨rfl, rfl⟩]
    have esj : ∀ j, j ≠ k → r_sl h' j = r_sl h j := fun j hj => by
      unfold r_sl
      rw [eP]
      exact lr _ _ Pl (fun z => hj z.2)
    have sm : ∀ j, j < 4 → r_sl h j ≠ 0 → pl_same h h' (r_sl h j) := fun j hj j0 => pl_mk ht (sl_ob ht h16 hj j0) (fun a k2 a0 _ aP => lr a k2 (lt a0) (fun z => aP (by rw [z.1]; exact fP)))
    have jk : ∀ j, r_sl h j ≠ 0 → j ≠ k := fun j j0 z => j0 (by rw [z]; exact e1)
    have nr : ∀ a j, h_r h' (16 + h_n h + a) j = h_r h2 (16 + h_n h + a) j := fun a j => by rw [e3, s_srR, if_neg (fun z => by have := z.1; omega)]
    obtain ⟨⟨a0, a1, a2, a3⟩, a4⟩ := past_at S
    have b0 : h_r h' (16 + h_n h + 0) 0 = 16 + h_n h + 1 := (nr 0 0).trans a0
    have b1 : h_r h' (16 + h_n h + 0) 1 = 16 + h_n h + 15 := (nr 0 1).trans a1
    have b2 : h_r h' (16 + h_n h + 1) 4 = 16 + h_n h + 6 := (nr 1 4).trans a2
    have b3 : h_r h' (16 + h_n h + 15) 2 = 16 + h_n h + 18 := (nr 15 2).trans a3
    have c20 : h_r h2 (16 + h_n h + 0) 2 = 16 + h_n h + 20 := ((S.2.2 0 _ rfl).2 2 (by decide)).2 (Or.inl (by decide))
    have b4 : ∀ i, i < 59 → pa_w h' (16 + h_n h + 0) i = 16 + h_n h + past_X i := fun i hi => by
      rw [← a4 i hi]
      unfold pa_w
      simp only [nr 0]
      rw [a0, a1, c20, nr 1, nr 1, nr 1, nr 1, a2, nr 6, nr 15, nr 20]
    have old : ∀ q, ρ q = 29 → pl_same h h' q → (q < 16 + h_n h ∧ h_r h' q 0 < 16 + h_n h ∧ h_r h' (h_r h' q 0) 4 < 16 + h_n h ∧ h_r h' (h_r h' q 1) 2 < 16 + h_n h) ∧ ∀ i, i < 59 → i ≠ 11 → pa_w h' q i < 16 + h_n h := fun q hq s => by
      obtain ⟨⟨s0, s1, s2, s3⟩, s4⟩ := s
      obtain ⟨⟨r0, r1, -⟩, r4, rf⟩ := past_ob ht hq
      refine ⟨⟨lt (by rw [hq]; decide), by rw [s0]; exact lt (by rw [r0]; decide), by rw [s0, s2]; exact lt (by rw [r4]; decide), by rw [s1, s3]; exact lt (by rw [rf]; decide)⟩, fun i hi h11 => ?_⟩
      rw [s4 i hi h11]
      exact lt (by rw [past_row ht hq i hi]; exact (pa_Rn i hi).1)
    have ndS : ∀ j, j < 4 → r_sl h j ≠ 0 → nd_same h h' (r_sl h j) := fun j hj j0 => by
      have q0 := (past_ob ht (sl_ob ht h16 hj j0)).1.1
      have qc := (th_rf ht (R := 39) (by decide) rfl q0 (k := 0) rfl (fun z => by cases z)).2
      have l0 := lt (by rw [q0]; decide : ρ (h_r h (r_sl h j) 0) ≠ 0)
      have qh := (th_rf ht (R := 39) (by decide) rfl q0 (k := 1) rfl (fun z => by cases z)).2
      exact ⟨lr _ _ l0 (fun z => by have w := z.1; rw [w, fP] at q0; cases q0), ⟨li _ _ l0, li _ _ l0⟩, fun q => li _ _ (lt (by rw [qc]; decide)), lr _ _ l0 (fun z => by have w := z.1; rw [w, fP] at q0; cases q0), fun q => ll _ _ (lt (by rw [qh]; decide))⟩
    have ceN : ∀ j, j < 4 → r_sl h j ≠ 0 → h_r h' (h_r h' (r_sl h j) 0) 0 = h_r h (h_r h (r_sl h j) 0) 0 ∧ h_r h (h_r h (r_sl h j) 0) 0 < 16 + h_n h := fun j hj j0 => by
      have q0 := (past_ob ht (sl_ob ht h16 hj j0)).1.1
      have qc := (th_rf ht (R := 39) (by decide) rfl q0 (k := 0) rfl (fun z => by cases z)).2
      refine ⟨?_, lt (by rw [qc]; decide)⟩
      rw [(sm j hj j0).1.1]
      exact (ndS j hj j0).1
    have heN : ∀ j, j < 4 → r_sl h j ≠ 0 → h_r h' (h_r h' (r_sl h j) 0) 1 = h_r h (h_r h (r_sl h j) 0) 1 ∧ h_r h (h_r h (r_sl h j) 0) 1 < 16 + h_n h := fun j hj j0 => by
      have q0 := (past_ob ht (sl_ob ht h16 hj j0)).1.1
      have qh := (th_rf ht (R := 39) (by decide) rfl q0 (k := 1) rfl (fun z => by cases z)).2
      refine ⟨?_, lt (by rw [qh]; decide)⟩
      rw [(sm j hj j0).1.1]
      exact (ndS j hj j0).2.2.2.1
    have c11 : h_r h2 (16 + h_n h + 1) 1 = 16 + h_n h + 3 := ((S.2.2 1 _ rfl).2 1 (by decide)).2 (Or.inl (by decide))
    have b12 : h_r h' (16 + h_n h + 1) 1 = 16 + h_n h + 3 := (nr 1 1).trans c11
    have b11 : h_r h' (16 + h_n h + 1) 0 = 16 + h_n h + past_X 11 := by
      have := b4 11 (by decide)
      unfold pa_w at this
      rw [if_neg (by decide), if_neg (by decide), if_neg (by decide), if_neg (by decide), if_neg (by decide), if_pos rfl, b0] at this
      exact this
    refine ⟨⟨nx_n0, esk⟩, fun j hj j0 => ?_, esj, fun j hj j0 => ⟨esj j (jk j j0), fun Y b => bk_sameB (sm j hj j0) ⟨⟨li _ _ (lt (by rw [sl_ob ht h16 hj j0]; decide)), li _ _ (lt (by rw [sl_ob ht h16 hj j0]; decide))⟩, fun i h1 h3 q => li _ _ (lt (by rw [past_row ht (sl_ob ht h16 hj j0) i (by omega)]; exact (pa_Rn i (by omega)).1)), fun q => ll _ _ (lt (by rw [(past_ob ht (sl_ob ht h16 hj j0)).2.2]; decide)), ndS j hj j0⟩ b⟩⟩
    by_cases ej : j = k
    · subst ej
      rw [esk]
      refine ⟨fun i i2 hi hi2 _ _ hn => ?_, fun q hq hn q0 => ?_⟩
      · rw [b4 i hi, b4 i2 hi2]
        have := past_Xn i hi i2 hi2 hn
        omega
      · rw [esj q hn] at q0 ⊢
        obtain ⟨⟨o1, o2, o3, o4⟩, o5⟩ := old _ (sl_ob ht h16 hq q0) (sm q hq q0)
        unfold pl_x
        rw [b0, b2, b1, b3]
        refine ⟨nx_ne o1, nx_ne o2, nx_ne o3, nx_ne o4, fun i i2 hi hi2 i11 i211 => ?_, by rw [b11, (ceN q hq q0).1]; exact nx_ne (ceN q hq q0).2, by rw [b12, (heN q hq q0).1]; exact nx_ne (heN q hq q0).2⟩
        rw [b4 i hi]
        exact nx_ne (o5 i2 hi2 i211)
    · rw [esj j ej] at j0 ⊢
      obtain ⟨y1, y2⟩ := pl j hj j0
      obtain ⟨⟨o1, o2, o3, o4⟩, o5⟩ := old _ (sl_ob ht h16 hj j0) (sm j hj j0)
      refine ⟨pl_sameO (sm j hj j0) y1, fun q hq hn q0 => ?_⟩
      by_cases eq : q = k
      · subst eq
        rw [esk]
        unfold pl_x
        rw [b0, b2, b1, b3]
        refine ⟨nx_ne2 o1, nx_ne2 o2, nx_ne2 o3, nx_ne2 o4, fun i i2 hi hi2 i11 i211 => ?_, by rw [b11, (ceN j hj j0).1]; exact nx_ne2 (ceN j hj j0).2, by rw [b12, (heN j hj j0).1]; exact nx_ne2 (heN j hj j0).2⟩
        rw [b4 i2 hi2]
        exact nx_ne2 (o5 i hi i11)
      · rw [esj q eq] at q0 ⊢
        exact pl_sameX (sm j hj j0) (sm q hq q0) (y2 q hq hn q0) (by rw [(ceN j hj j0).1, (ceN q hq q0).1]; exact (y2 q hq hn q0).2.2.2.2.2.1) (by rw [(heN j hj j0).1, (heN q hq q0).1]; exact (y2 q hq hn q0).2.2.2.2.2.2)
