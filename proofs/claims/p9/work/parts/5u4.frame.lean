-- PASTS, by frames that may change what is told
def pl_D : List (Nat × Nat) := [(6, 0), (6, 2), (6, 1002), (9, 1001), (9, 1002), (29, 0), (29, 1), (29, 2), (29, 3), (29, 4), (29, 5), (29, 6), (29, 7), (29, 8), (29, 11), (39, 2), (39, 3), (39, 4), (16, 0), (16, 1), (16, 2), (16, 3), (16, 4), (16, 5), (16, 6), (42, 0), (42, 1), (42, 2), (30, 1001), (30, 1002), (31, 1001), (31, 1002), (32, 1001), (32, 1002), (33, 1001), (33, 1002), (34, 1001), (34, 1002), (43, 1001), (43, 1002), (44, 1001), (44, 1002), (45, 1001), (45, 1002), (39, 0), (39, 5), (39, 6), (29, 12), (40, 1001), (40, 1002), (35, 1001), (35, 1002), (39, 1), (41, 1001), (41, 1002)]
theorem pl_fr2 {ρ ρ' : Nat → Nat} {W : List (Nat × Nat)} {h h' : MH} {p : Nat} (ht : TH c_sp ρ h) (f : FQ ρ ρ' W h h') (hn : d_no pl_D W = true) (hp : ρ p = 29) : pl_same h h' p ∧ bk_same h h' p := by
  have lt : ∀ {x : Nat}, ρ x ≠ 0 → x < 16 + h_n h := fun {x} hx => (ht.2 x hx).1
  obtain ⟨⟨r0, r1, r2, r7, r8⟩, r4, rf⟩ := past_ob ht hp
  have rw_ := past_row ht hp
  have lp := lt (by rw [hp]; decide)
  have l0 := lt (by rw [r0]; decide)
  have l1 := lt (by rw [r1]; decide)
  have l2 := lt (by rw [r2]; decide)
  have l4 := lt (by rw [r4]; decide)
  have lf := lt (by rw [rf]; decide)
  have p0 := (fq_f f hn (List.mem_of_getElem? (i := 5) rfl) (by decide) hp lp).2
  have p1 := (fq_f f hn (List.mem_of_getElem? (i := 6) rfl) (by decide) hp lp).2
  have p2 := (fq_f f hn (List.mem_of_getElem? (i := 7) rfl) (by decide) hp lp).2
  have p3 := (fq_f f hn (List.mem_of_getElem? (i := 8) rfl) (by decide) hp lp).2
  have p4 := (fq_f f hn (List.mem_of_getElem? (i := 9) rfl) (by decide) hp lp).2
  have p5 := (fq_f f hn (List.mem_of_getElem? (i := 10) rfl) (by decide) hp lp).2
  have p6 := (fq_f f hn (List.mem_of_getElem? (i := 11) rfl) (by decide) hp lp).2
  have p7 := (fq_f f hn (List.mem_of_getElem? (i := 12) rfl) (by decide) hp lp).2
  have p8 := (fq_f f hn (List.mem_of_getElem? (i := 13) rfl) (by decide) hp lp).2
  have n2 := (fq_f f hn (List.mem_of_getElem? (i := 15) rfl) (by decide) r0 l0).2
  have n3 := (fq_f f hn (List.mem_of_getElem? (i := 16) rfl) (by decide) r0 l0).2
  have n4 := (fq_f f hn (List.mem_of_getElem? (i := 17) rfl) (by decide) r0 l0).2
  have w0 := (fq_f f hn (List.mem_of_getElem? (i := 18) rfl) (by decide) r4 l4).2
  have w1 := (fq_f f hn (List.mem_of_getElem? (i := 19) rfl) (by decide) r4 l4).2
  have w2 := (fq_f f hn (List.mem_of_getElem? (i := 20) rfl) (by decide) r4 l4).2
  have w3 := (fq_f f hn (List.mem_of_getElem? (i := 21) rfl) (by decide) r4 l4).2
  have w4 := (fq_f f hn (List.mem_of_getElem? (i := 22) rfl) (by decide) r4 l4).2
  have w5 := (fq_f f hn (List.mem_of_getElem? (i := 23) rfl) (by decide) r4 l4).2
  have w6 := (fq_f f hn (List.mem_of_getElem? (i := 24) rfl) (by decide) r4 l4).2
  have i0 := (fq_f f hn (List.mem_of_getElem? (i := 25) rfl) (by decide) r1 l1).2
  have i1 := (fq_f f hn (List.mem_of_getElem? (i := 26) rfl) (by decide) r1 l1).2
  have i2 := (fq_f f hn (List.mem_of_getElem? (i := 27) rfl) (by decide) r1 l1).2
  have eR := fun j => (fq_e j f hn (List.mem_of_getElem? (i := 28) rfl) (List.mem_of_getElem? (i := 29) rfl) r2 l2).2
  have W_ : ∀ i, i < 59 → i ≠ 11 → pa_w h' p i = pa_w h p i := fun i hi h11 => by
    by_cases h18 : i < 18
    · match i, h18 with
      | 0, _ =>
        show h_r h' (h_r h' (h_r h' p 0) 4) 0 = _
        rw [p0, n4]
        exact w0
      | 1, _ =>
        show h_r h' (h_r h' (h_r h' p 0) 4) 1 = _
        rw [p0, n4]
        exact w1
      | 2, _ =>
        show h_r h' (h_r h' (h_r h' p 0) 4) 2 = _
        rw [p0, n4]
        exact w2
      | 3, _ =>
        show h_r h' (h_r h' (h_r h' p 0) 4) 3 = _
        rw [p0, n4]
        exact w3
      | 4, _ =>
        show h_r h' (h_r h' (h_r h' p 0) 4) 4 = _
        rw [p0, n4]
        exact w4
      | 5, _ =>
        show h_r h' (h_r h' (h_r h' p 0) 4) 5 = _
        rw [p0, n4]
        exact w5
      | 6, _ =>
        show h_r h' (h_r h' (h_r h' p 0) 4) 6 = _
        rw [p0, n4]
        exact w6
      | 7, _ =>
        exact p7
      | 8, _ =>
        exact p8
      | 9, _ =>
        show h_r h' (h_r h' p 0) 2 = _
        rw [p0]
        exact n2
      | 10, _ =>
        show h_r h' (h_r h' p 0) 3 = _
        rw [p0]
        exact n3
      | 11, _ =>
        exact absurd rfl h11
      | 12, _ =>
        exact p3
      | 13, _ =>
        exact p4
      | 14, _ =>
        exact p5
      | 15, _ =>
        exact p6
      | 16, _ =>
        show h_r h' (h_r h' p 1) 0 = _
        rw [p1]
        exact i0
      | 17, _ =>
        show h_r h' (h_r h' p 1) 1 = _
        rw [p1]
        exact i1
      | q + 18, z => exact absurd z (by omega)
    · have e : ∀ g : MH, pa_w g p i = h_r g (h_r g p 2) (i - 18) := fun g => by
        unfold pa_w
        rw [if_neg (by omega), if_neg (by omega), if_neg (by omega), if_neg (by omega), if_neg (by omega), if_neg (by omega), if_neg (by omega), if_neg h18]
      rw [e, e, p2]
      exact eR _
  have rcl := (th_rf ht (R := 39) (by decide) rfl r0 (k := 0) rfl (fun z => by cases z)).2
  have rhl := (th_rf ht (R := 39) (by decide) rfl r0 (k := 1) rfl (fun z => by cases z)).2
  have lh := lt (by rw [rhl]; decide : ρ (h_r h (h_r h p 0) 1) ≠ 0)
  refine ⟨⟨⟨p0, p1, n4, i2⟩, W_⟩, ⟨(fq_f f hn (List.mem_of_getElem? (i := 14) rfl) (by decide) hp lp).1, (fq_f f hn (List.mem_of_getElem? (i := 47) rfl) (by decide) hp lp).1⟩, fun i h1 h2 j => ?_, fun j => ?_, (fq_f f hn (List.mem_of_getElem? (i := 44) rfl) (by decide) r0 l0).2, ⟨(fq_f f hn (List.mem_of_getElem? (i := 45) rfl) (by decide) r0 l0).1, (fq_f f hn (List.mem_of_getElem? (i := 46) rfl) (by decide) r0 l0).1⟩, fun j => (fq_e j f hn (List.mem_of_getElem? (i := 48) rfl) (List.mem_of_getElem? (i := 49) rfl) rcl (lt (by rw [rcl]; decide))).1, (fq_f f hn (List.mem_of_getElem? (i := 52) rfl) (by decide) r0 l0).2, fun j => ?_⟩
  · have ri := rw_ i (by omega)
    match i, h1, h2 with
    | 12, _, _ => exact (fq_e j f hn (List.mem_of_getElem? (i := 30) rfl) (List.mem_of_getElem? (i := 31) rfl) ri (lt (by rw [ri]; decide))).1
    | 13, _, _ => exact (fq_e j f hn (List.mem_of_getElem? (i := 32) rfl) (List.mem_of_getElem? (i := 33) rfl) ri (lt (by rw [ri]; decide))).1
    | 14, _, _ => exact (fq_e j f hn (List.mem_of_getElem? (i := 34) rfl) (List.mem_of_getElem? (i := 35) rfl) ri (lt (by rw [ri]; decide))).1
    | 15, _, _ => exact (fq_e j f hn (List.mem_of_getElem? (i := 36) rfl) (List.mem_of_getElem? (i := 37) rfl) ri (lt (by rw [ri]; decide))).1
    | 16, _, _ => exact (fq_e j f hn (List.mem_of_getElem? (i := 38) rfl) (List.mem_of_getElem? (i := 39) rfl) ri (lt (by rw [ri]; decide))).1
    | 17, _, _ => exact (fq_e j f hn (List.mem_of_getElem? (i := 40) rfl) (List.mem_of_getElem? (i := 41) rfl) ri (lt (by rw [ri]; decide))).1
    | q + 18, z, _ =>
      have r6 : ρ (pa_w h p (q + 18)) = 35 := ri.trans (if_neg (by omega))
      exact (fq_e j f hn (List.mem_of_getElem? (i := 50) rfl) (List.mem_of_getElem? (i := 51) rfl) r6 (lt (by rw [r6]; decide))).1
  · have hw : ¬ t_W W (ρ (h_r h (h_r h p 1) 2)) j := by
      rw [rf]
      by_cases hk : j = 1002
      · intro z
        rcases z with z | z
        · rw [hk] at z
          exact d_noN hn (List.mem_of_getElem? (i := 43) rfl) z
        · exact d_noW hn (List.mem_of_getElem? (i := 42) rfl) (by decide) (Or.inr z)
      · rcases d_noE (k := j) hn (List.mem_of_getElem? (i := 42) rfl) with z | z
        · exact z
        · exact absurd z hk
    exact ((f.2.2.2 _ lf).2 j hw).2.1
  · have hw : ¬ t_W W (ρ (h_r h (h_r h p 0) 1)) j := by
      rw [rhl]
      by_cases hk : j = 1002
      · intro z
        rcases z with z | z
        · rw [hk] at z
          exact d_noN hn (List.mem_of_getElem? (i := 54) rfl) z
        · exact d_noW hn (List.mem_of_getElem? (i := 53) rfl) (by decide) (Or.inr z)
      · rcases d_noE (k := j) hn (List.mem_of_getElem? (i := 53) rfl) with z | z
        · exact z
        · exact absurd z hk
    exact ((f.2.2.2 _ lh).2 j hw).2.1
theorem sl_fr2 {ρ ρ' : Nat → Nat} {W : List (Nat × Nat)} {h h' : MH} (ht : TH c_sp ρ h) (f : FQ ρ ρ' W h h') (hn : d_no pl_D W = true) (h16 : ρ 16 = 6) (k : Nat) : r_sl h' k = r_sl h k := by
  have l16 := (ht.2 16 (by rw [h16]; decide)).1
  have eP : r_P h' = r_P h := (fq_f f hn (List.mem_of_getElem? (i := 1) rfl) (by decide) h16 l16).2
  have fP : ρ (r_P h) = 9 := (th_rf ht (R := 6) (by decide) rfl h16 (k := 2) rfl (fun z => by cases z)).2
  unfold r_sl
  rw [eP]
  exact (fq_e k f hn (List.mem_of_getElem? (i := 3) rfl) (List.mem_of_getElem? (i := 4) rfl) fP (ht.2 _ (by rw [fP]; decide)).1).2
def sk (h h' : MH) (s : Nat) : Prop := r_sl h s ≠ 0 → r_sl h' s = r_sl h s ∧ ∀ Y, bk_0 h (r_sl h s) Y → bk_0 h' (r_sl h s) Y
theorem sk_T {h h1 h2 : MH} {s : Nat} (a : sk h h1 s) (b : sk h1 h2 s) : sk h h2 s := fun s0 => by
  obtain ⟨a1, a2⟩ := a s0
  obtain ⟨b1, b2⟩ := b (by rw [a1]; exact s0)
  rw [a1] at b1 b2
  exact ⟨b1, fun Y y => b2 Y (a2 Y y)⟩
theorem sk_fr {ρ ρ' : Nat → Nat} {W : List (Nat × Nat)} {h h' : MH} (ht : TH c_sp ρ h) (f : FQ ρ ρ' W h h') (hn : d_no pl_D W = true) (h16 : ρ 16 = 6) : (pl_t h → pl_t h') ∧ (∀ s, r_sl h' s = r_sl h s) ∧ ∀ s, s < 4 → sk h h' s := by
  have es := sl_fr2 ht f hn h16
  refine ⟨fun k1 i hi h0 => ?_, es, fun s hs h0 => ?_⟩
  · rw [es] at h0
    rw [es]
    obtain ⟨y1, y2⟩ := k1 i hi h0
    have si := pl_fr2 ht f hn (sl_ob ht h16 hi h0)
    refine ⟨pl_sameO si.1 y1, fun j hj hn2 h1 => ?_⟩
    rw [es] at h1
    rw [es]
    have sj := pl_fr2 ht f hn (sl_ob ht h16 hj h1)
    exact pl_sameX2 si.1 sj.1 si.2 sj.2 (y2 j hj hn2 h1)
  · have sr := pl_fr2 ht f hn (sl_ob ht h16 hs h0)
    exact ⟨es s, fun Y b => bk_sameB sr.1 sr.2 b⟩
theorem ar_Y {h : MH} {c : Nat} {Z : RLS} (a : ar_q h c Z) : ac_Y h c = (ry_run (fun j => ls_t Z (j + 1)) (ls_g Z)).1 := by
  obtain ⟨a1, a2⟩ := a
  have eN : ac_N h c = ls_g Z := by
    unfold ac_N
    omega
  unfold ac_Y
  rw [eN, ry_runC (ls_g Z) (ac_TI (U := fun j => ls_t Z (j + 1)) (fun q hq => ⟨(a2 q hq).1, fun i hi => by
    have := (a2 q hq).2 i hi
    rw [show 4 * q + 2 + i = 4 * q + 1 + i + 1 by omega] at this
    exact this⟩))]
theorem ac_ofT {h : MH} {c : Nat} (b : 0 ≤ q_fd h c 2) : ac_of (z_i h) c (h_r h c 0) (h_r h c 1) (ac_T h c) (ac_N h c) := by
  refine ⟨?_, fun k _ => ?_⟩
  · unfold ac_N
    show q_fd h c 2 = _
    omega
  · obtain ⟨e1, e2⟩ := ac_TE (h := h) (c := c) (k := k)
    exact ⟨e1.symm, fun i hi => (e2 i hi).symm⟩
theorem ac_okTN {ρ : Nat → Nat} {h : MH} {p c : Nat} (ht : TH c_sp ρ h) (hp : ρ p = 29) (hc : ρ c = 12) : ac_ok h p c ∧ 0 ≤ q_fd h c 2 ∧ q_fd h c 2 ≤ 40 := by
  have rk := (th_rf ht (R := 12) (by decide) rfl hc (k := 0) rfl (fun z => by cases z)).2
  have rn := (th_rf ht (R := 12) (by decide) rfl hc (k := 1) rfl (fun z => by cases z)).2
  have lt : ∀ {x : Nat}, ρ x ≠ 0 → x < 16 + h_n h := fun {x} hx => (ht.2 x hx).1
  have cc := t_spec ht (by decide) (rfl : c_sp[12]? = some _) hc
  have ck := t_spec ht (by decide) (rfl : c_sp[14]? = some _) rk
  have cn := t_spec ht (by decide) (rfl : c_sp[15]? = some _) rn
  have c2 := cc.2.2.2 2 (.inl (0, 40)) rfl (fun z => by cases z)
  have k40 : 40 ≤ (h_k h (h_r h c 0)).2 := ck.2.1.1
  have n120 : 120 ≤ (h_k h (h_r h c 1)).2 := cn.2.1.1
  have w := past_row ht hp
  refine ⟨⟨⟨cc.1, cc.2.2.1 rfl, lt (by rw [hc]; decide)⟩, ⟨ck.1, lt (by rw [rk]; decide), by omega⟩, ⟨cn.1, lt (by rw [rn]; decide), by omega⟩, fun i hi => ?_⟩, c2.1, c2.2⟩
  obtain ⟨q1, q2, q3, q4⟩ := (pa_Rn i hi).2.2.2.2.2.2.2.2.2.1
  exact ⟨ne_r rk (w i hi) (Ne.symm q1), ne_r rn (w i hi) (Ne.symm q2)⟩
theorem ac_okTT {ρ : Nat → Nat} {h : MH} {p c : Nat} (ht : TH c_sp ρ h) (hp : ρ p = 29) (hc : ρ c = 103) : ac_ok h p c ∧ 0 ≤ q_fd h c 2 ∧ q_fd h c 2 ≤ 40 := by
  have rk := (th_rf ht (R := 103) (by decide) rfl hc (k := 0) rfl (fun z => by cases z)).2
  have rn := (th_rf ht (R := 103) (by decide) rfl hc (k := 1) rfl (fun z => by cases z)).2
  have lt : ∀ {x : Nat}, ρ x ≠ 0 → x < 16 + h_n h := fun {x} hx => (ht.2 x hx).1
  have cc := t_spec ht (by decide) (rfl : c_sp[103]? = some _) hc
  have ck := t_spec ht (by decide) (rfl : c_sp[104]? = some _) rk
  have cn := t_spec ht (by decide) (rfl : c_sp[105]? = some _) rn
  have c2 := cc.2.2.2 2 (.inl (0, 40)) rfl (fun z => by cases z)
  have k40 : 40 ≤ (h_k h (h_r h c 0)).2 := ck.2.1.1
  have n120 : 120 ≤ (h_k h (h_r h c 1)).2 := cn.2.1.1
  have w := past_row ht hp
  refine ⟨⟨⟨cc.1, cc.2.2.1 rfl, lt (by rw [hc]; decide)⟩, ⟨ck.1, lt (by rw [rk]; decide), by omega⟩, ⟨cn.1, lt (by rw [rn]; decide), by omega⟩, fun i hi => ?_⟩, c2.1, c2.2⟩
  obtain ⟨q1, q2, q3, q4⟩ := (pa_Rn i hi).2.2.2.2.2.2.2.2.2.1
  exact ⟨ne_r rk (w i hi) (Ne.symm q3), ne_r rn (w i hi) (Ne.symm q4)⟩
-- the token behind a change of what is told
theorem im_15 {ρ ρ2 : Nat → Nat} {W : List (Nat × Nat)} {h h2 : MH} (ht : TH c_sp ρ h) (n15 : c_PT 15 ρ h) (f : FQ ρ ρ2 W h h2) (hn : d_no pl_D W = true) (N2 : h_r h2 16 0 = h_r h 16 0) (pcN : pc_eq h (h_r h 16 0) h2 (h_r h 16 0)) (im : ∀ k, k < 3 → r_im h2 k ≠ 0 → ∃ a, td_bd h a ∧ av_t h a ∧ pc_eq h a h2 (r_im h2 k)) : c_PT 15 ρ2 h2 := by
  obtain ⟨h16, k1, k2, k3, k4⟩ := n15
  obtain ⟨s1, s2, s3⟩ := sk_fr ht f hn h16
  have bd := td_bdN ht (nw_ob ht h16)
  refine ⟨(f.2.1 16 (by rw [h16]; decide)).trans h16, s1 k1, fun r hr => ?_, by rw [N2]; exact av_pc pcN bd k3, fun k hk h0 => ?_⟩
  · rw [N2, pcN.1 5 (by decide) (by decide)] at hr
    have r4 : r < 4 := by
      have := bd.2.1
      omega
    obtain ⟨y1, y2⟩ := k2 r hr
    obtain ⟨z1, z2⟩ := s3 r r4 y1
    obtain ⟨e1, e2, e3⟩ := pcN.2.2 r r4
    rw [z1, N2, (ac_eqY e1 (bd.2.2 r r4) e2 e3).1]
    exact ⟨y1, z2 _ y2⟩
  · obtain ⟨a, b, v, p⟩ := im k hk h0
    exact av_pc p b v
