-- THE ROOM, ONE IMAGE MORE
def dp_i : List (Nat × Nat) := [(0, 1001), (0, 1002), (6, 0), (6, 1), (6, 2), (6, 7), (6, 1002), (25, 0), (25, 1002), (9, 1001), (29, 0), (47, 0), (39, 1), (48, 1), (39, 1002), (48, 1002)]
theorem rm_img {ρ ρ' : Nat → Nat} {W : List (Nat × Nat)} {h h' : MH} (ht : TH c_sp ρ h) (f : FQ ρ ρ' W h h') (hn : d_no dp_i W = true) {k9 d z : Nat} (hk9 : k9 < 3) (s0 : r_im h k9 = 0) (en : h_n h' = h_n h + d) (d1 : d ≤ 20) (ez : h_z h' = h_z h + z) (z1 : z ≤ 1400) (es : ∀ k, k < 4 → k ≠ k9 → h_r h' (r_I h) k = h_r h (r_I h) k) (P0 : h_r h' (r_I h) k9 ≠ 0) (k : t_rm ρ h) : t_rm ρ' h' := by
  obtain ⟨⟨a1, a2, a3, a4, a5⟩, b, c, d, e⟩ := k
  have eP : r_P h' = r_P h := rm_rD f (by decide) hn a1.1 (R := 6) (by decide) (by decide) a1.2
  have eI : r_I h' = r_I h := rm_rD f (by decide) hn a1.1 (R := 6) (by decide) (by decide) a1.2
  have eS : r_S h' = r_S h := rm_rD f (by decide) hn a1.1 (R := 6) (by decide) (by decide) a1.2
  have eT0 : h_r h' (r_S h') 0 = h_r h (r_S h) 0 := by
    rw [eS]
    exact rm_rD f (by decide) hn a4.1 (R := 25) (by decide) (by decide) a4.2
  have eT : r_T h' = r_T h := by
    unfold r_T
    rw [eT0, (f.2.2.2 _ a5.1).1]
  have esl : ∀ k, k < 4 → r_sl h' k = r_sl h k := fun k hk => by
    unfold r_sl
    rw [eP]
    exact rm_eD f (by decide) hn a2.1 (R := 9) (by decide) (by omega) a2.2
  have eim : ∀ k, k < 4 → k ≠ k9 → r_im h' k = r_im h k := fun k hk hne => by
    unfold r_im
    rw [eI]
    exact es k hk hne
  have ein : r_im h' k9 ≠ 0 := by
    unfold r_im
    rw [eI]
    exact P0
  have eno : ∀ k, k < 4 → r_sl h k ≠ 0 → r_no h' k = r_no h k := fun k hk hs => by
    rcases b k hk with z | ⟨z1, z2, z3⟩
    · exact absurd z hs
    · unfold r_no
      rw [esl k hk]
      rcases z1.2 with q | q | q
      · exact rm_rD f (by decide) hn z1.1 (R := 29) (by decide) (by decide) (Or.inl q)
      · exact rm_rD f (by decide) hn z1.1 (R := 47) (by decide) (by decide) (Or.inl q)
      · exact rm_rD f (by decide) hn z1.1 (R := 29) (by decide) (by decide) (Or.inr q)
  have eho : ∀ k, k < 4 → r_sl h k ≠ 0 → r_ho h' k = r_ho h k ∧ r_L h' k = r_L h k := fun k hk hs => by
    rcases b k hk with z | ⟨z1, z2, z3⟩
    · exact absurd z hs
    · have e1 : r_ho h' k = r_ho h k := by
        unfold r_ho
        rw [eno k hk hs]
        rcases z2.2 with q | q | q
        · exact rm_rD f (by decide) hn z2.1 (R := 39) (by decide) (by decide) (Or.inl q)
        · exact rm_rD f (by decide) hn z2.1 (R := 48) (by decide) (by decide) (Or.inl q)
        · exact rm_rD f (by decide) hn z2.1 (R := 39) (by decide) (by decide) (Or.inr q)
      refine ⟨e1, ?_⟩
      unfold r_L
      rw [e1, (f.2.2.2 _ z3).1]
  have epn : ∀ k, k < 4 → r_pn h' k = r_pn h k ∧ r_pz h' k = r_pz h k := fun k hk => by
    unfold r_pn r_pz
    rw [esl k hk]
    by_cases hs : r_sl h k = 0
    · rw [if_pos hs, if_pos hs, if_pos hs, if_pos hs]
      exact ⟨rfl, rfl⟩
    · rw [if_neg hs, if_neg hs, if_neg hs, if_neg hs, (eho k hk hs).2]
      exact ⟨rfl, rfl⟩
  have eqn : ∀ k, k < 4 → k ≠ k9 → r_qn h' k = r_qn h k ∧ r_qz h' k = r_qz h k := fun k hk hne => by
    unfold r_qn r_qz
    rw [eim k hk hne]
    exact ⟨rfl, rfl⟩
  have epk : r_qn h k9 = 0 ∧ r_qz h k9 = 0 ∧ r_qn h' k9 = 20 ∧ r_qz h' k9 = 1400 := by
    unfold r_qn r_qz
    rw [if_pos s0, if_pos s0, if_neg ein, if_neg ein]
    exact ⟨rfl, rfl, rfl, rfl⟩
  have hin : ∀ {a R : Nat}, r_iu ρ h a R → r_iu ρ' h' a R := fun {a R} q => ⟨by have := q.1; omega, by rw [f.same q.1]; exact q.2⟩
  have hin2 : ∀ {a R R2 : Nat}, r_iu2 ρ h a R R2 → r_iu2 ρ' h' a R R2 := fun {a R R2} q => ⟨by have := q.1; omega, by rw [f.same q.1]; exact q.2⟩
  refine ⟨⟨hin a1, by rw [eP]; exact hin a2, by rw [eI]; exact hin a3, by rw [eS]; exact hin a4, by rw [eT0]; have := a5.1; omega, fun a ha => a5.2.1 a (fq_m f ht hn (by decide) (show (6, 1002) ∈ dp_i by decide) ha).1, fun a ha => by rw [eS]; exact a5.2.2 a (fq_m f ht hn (by decide) (show (25, 1002) ∈ dp_i by decide) ha).1⟩, fun k hk => ?_, fun a ha => ?_, ?_, ?_⟩
  · by_cases hs : r_sl h k = 0
    · exact Or.inl ((esl k hk).trans hs)
    · rcases b k hk with z | ⟨z1, z2, z3⟩
      · exact absurd z hs
      · refine Or.inr ⟨by rw [esl k hk]; exact hin2 z1, by rw [eno k hk hs]; exact hin2 z2, ?_⟩
        rw [(eho k hk hs).1]
        omega
  · have ha2 : ρ a = 39 ∨ ρ a = 48 := by
      rcases ha with q | q
      · exact Or.inl (fq_m f ht hn (by decide) (show (39, 1002) ∈ dp_i by decide) q).1
      · exact Or.inr (fq_m f ht hn (by decide) (show (48, 1002) ∈ dp_i by decide) q).1
    obtain ⟨k, hk, hs, e9⟩ := c a ha2
    exact ⟨k, hk, by rw [esl k hk]; exact hs, by rw [eno k hk hs]; exact e9⟩
  · rw [en, (epn 0 (by decide)).1, (epn 1 (by decide)).1, (epn 2 (by decide)).1, (epn 3 (by decide)).1, eT]
    have q0 := eqn 0 (by decide)
    have q1 := eqn 1 (by decide)
    have q2 := eqn 2 (by decide)
    match k9, hk9 with
    | 0, _ => have := q1 (by decide); have := q2 (by decide); omega
    | 1, _ => have := q0 (by decide); have := q2 (by decide); omega
    | 2, _ => have := q0 (by decide); have := q1 (by decide); omega
  · rw [ez, (epn 0 (by decide)).2, (epn 1 (by decide)).2, (epn 2 (by decide)).2, (epn 3 (by decide)).2, eT]
    have q0 := eqn 0 (by decide)
    have q1 := eqn 1 (by decide)
    have q2 := eqn 2 (by decide)
    match k9, hk9 with
    | 0, _ => have := q1 (by decide); have := q2 (by decide); omega
    | 1, _ => have := q0 (by decide); have := q2 (by decide); omega
    | 2, _ => have := q0 (by decide); have := q1 (by decide); omega
def w_ct : List (Nat × Nat) := [(97, 2), (97, 3), (97, 4), (97, 5), (100, 2), (99, 1001), (101, 1001), (102, 1001)]
def w_im : List (Nat × Nat) := (8, 1001) :: (1000, 1002) :: w_ct ++ told_R.map (fun R => (R, 1002))
def nw_im (h h' : MH) (a : Nat) : Prop := 16 + h_n h ≤ h_r h' a 0 ∧ (∀ r, r < 4 → 16 + h_n h ≤ q_ac h' a r ∧ 16 + h_n h ≤ h_r h' (q_ac h' a r) 0 ∧ 16 + h_n h ≤ h_r h' (q_ac h' a r) 1) ∧ ow_ne h' a a
-- the heap ahead of the copy: the image is there, nothing else is changed
def im_b (ρ ρ' : Nat → Nat) (h h' : MH) (k : Nat) : Prop := (FQ ρ ρ' w_im h h' ∧ TH c_sp ρ' h') ∧ ρ' (h_r h' (r_I h) k) = 97 ∧ (h_r h (r_I h) k ≠ 0 → h' = h ∧ ρ' = ρ) ∧ (h_r h (r_I h) k = 0 → 16 + h_n h ≤ h_r h' (r_I h) k) ∧ (∀ a, a < 16 + h_n h → h_k h' a = h_k h a ∧ ∀ j, h_i h' a j = h_i h a j ∧ h_l h' a j = h_l h a j ∧ (¬ (a = r_I h ∧ j = k) → h_r h' a j = h_r h a j)) ∧ (h_r h (r_I h) k = 0 → nw_im h h' (h_r h' (r_I h) k))
section
variable {lv : List (Nat × Value)} {Q : Option Value → MH → Prop} {W : List (Nat × Nat)} {ρ : Nat → Nat} {m : Nat} {A : Nat → Nat} {h0 h : MH} {F : Nat → Int} {V : Nat → Nat → Int} {G : Nat → Nat → Int64}
theorem c_image {x1 : Int32} (Φ : (Nat → Nat) → MH → Nat → Nat → MH → Prop) (ht : TH c_sp ρ h) (hm : ρ m = 6) (n1 : t_nd ρ h) (n2 : t_rm ρ h) (e0 : m_lk lv 0 = some (.ref m)) (e1 : m_lk lv 1 = some (.int x1)) (cp : ∀ (ρ' : Nat → Nat) (h' : MH) (a b : Nat) (Q' : Option Value → MH → Prop), im_b ρ ρ' h h' x1.toInt.toNat → a = h_r h' (r_I h) x1.toInt.toNat → b = h_r h 16 0 → FQ ρ ρ' w_im h h' → TH c_sp ρ' h' → ρ' a = 97 → ρ' b = 7 → (∀ h'', FS ρ' w_ct h' h'' → TH c_sp ρ' h'' → Φ ρ' h' a b h'' → Q' none h'') → HJ 95 0 (lv_args 0 [.ref a, .ref b]) [] h' Q') (g1 : ∀ (ρ' : Nat → Nat) (h' h'' : MH) (x : Int32), 0 ≤ x1.toInt → x1.toInt ≤ 2 → x.toInt = 1 → FQ ρ ρ' w_im h h'' → TH c_sp ρ' h'' → t_nd ρ' h'' → t_rm ρ' h'' → im_b ρ ρ' h h' x1.toInt.toNat → FS ρ' w_ct h' h'' → Φ ρ' h' (h_r h' (r_I h) x1.toInt.toNat) (h_r h 16 0) h'' → Q (some (.int x)) h'') (g0 : ∀ x : Int32, x.toInt = 0 → x1.toInt < 0 ∨ 3 ≤ x1.toInt → Q (some (.int x)) h) : HJ 94 0 lv [] h Q := by
  have m16 : m = 16 := n2.1.2.2.2.2.2.1 m hm
  subst m16
  have fI : ρ (r_I h) = 8 := (th_rf ht (R := 6) (by decide) rfl hm (k := 1) rfl (fun z => by cases z)).2
  have fN : ρ (h_r h 16 0) = 7 := (th_rf ht (R := 6) (by decide) rfl hm (k := 0) rfl (fun z => by cases z)).2
  have k16 : (h_k h 16).1 = 9 := (t_spec ht (by decide) (rfl : c_sp[6]? = some _) hm).1
  have cI := t_spec ht (by decide) (rfl : c_sp[8]? = some _) fI
  have kI : (h_k h (r_I h)).1 = 30 := cI.1
  have lI : 3 ≤ (h_k h (r_I h)).2 := cI.2.1.1
  have I16 : 16 ≤ r_I h := cI.2.2.1 rfl
  have Il : r_I h < 16 + h_n h := (ht.2 _ (by rw [fI]; decide)).1
  have l16 : 16 < 16 + h_n h := n2.1.1.1
  have ne16 : (16 : Nat) ≠ r_I h := fun z => by rw [← z, hm] at fI; cases fI
  have bad : x1.toInt < 0 ∨ 3 ≤ x1.toInt → HJ 94 9 lv [] h Q := fun hb => hM_ic (n := 0) rfl (by decide) rfl (fun x q => hM_rb rfl rfl q (by omega) (by omega) (g0 x q hb))
  refine hI_il (k := 1) rfl e1 rfl ?_
  refine hM_zlt (off := 8) (t := 9) rfl rfl (by decide) rfl (fun c => bad (Or.inl c)) (fun cA => ?_)
  refine hI_il (k := 1) rfl e1 rfl ?_
  refine hM_ic (n := 3) rfl (by decide) rfl (fun x3 q3 => ?_)
  refine hM_clt (off := 5) (t := 11) rfl rfl q3 (by decide) rfl (fun cB => ?_) (fun c => bad (Or.inr (by omega)))
  have b0 : 0 ≤ x1.toInt := by omega
  have b2 : x1.toInt ≤ 2 := by omega
  have fin : ∀ (ρ' : Nat → Nat) (h' : MH), t_nd ρ' h' → t_rm ρ' h' → im_b ρ ρ' h h' x1.toInt.toNat → HJ 94 33 lv [] h' Q := fun ρ' h' n3 n4 I => by
    obtain ⟨⟨f, t⟩, u5, -, -, u6, -⟩ := id I
    have u1 := (u6 16 l16).1
    have u2 := (u6 _ Il).1
    have u3 : h_r h' 16 1 = r_I h := ((u6 16 l16).2 1).2.2 (fun z => ne16 z.1)
    have u4 : h_r h' 16 0 = h_r h 16 0 := ((u6 16 l16).2 0).2.2 (fun z => ne16 z.1)
    refine hI_al (k := 0) rfl e0 rfl ?_
    refine hI_gr rfl rfl rfl (by rw [u1]; exact k16) rfl ?_
    rw [u3]
    refine hI_il (k := 1) rfl e1 rfl ?_
    refine hI_aa (o := r_I h) rfl (by rw [u2, kI]; decide) b0 (by rw [u2]; omega) rfl ?_
    refine hI_al (k := 0) rfl e0 rfl ?_
    refine hI_gr rfl rfl rfl (by rw [u1]; exact k16) rfl ?_
    rw [u4]
    refine hM_iv (MX.start (W := []) t u5) (by decide) rfl rfl (by decide) (as := [.ref (h_r h 16 0)]) (r := []) rfl rfl (by decide +kernel) rfl (by decide +kernel) rfl rfl rfl rfl rfl ?_
    refine cp ρ' h' _ _ _ I rfl rfl f t u5 ((f.2.1 _ (by rw [fN]; decide)).trans fN) (fun h2 fs t2 φ => ?_)
    show HJ 94 46 lv [] h2 Q
    exact hM_ic (n := 1) rfl (by decide) rfl (fun x q => hM_rb rfl rfl q (by omega) (by omega) (g1 ρ' h' h2 x b0 b2 q (f.trans (fs.fq.mono (by decide +kernel))) t2 (c_PTx 1 ρ' ρ' w_ct h' h2 t fs.fq (by decide +kernel) n3) (c_PTx 2 ρ' ρ' w_ct h' h2 t fs.fq (by decide +kernel) n4) I fs φ))
  have el : t_rf ρ 97 false (h_r h (r_I h) x1.toInt.toNat) := cI.2.2.2 x1.toInt.toNat (.inr (.inr (97, false))) rfl (fun _ => by omega)
  have el16 : h_r h (r_I h) x1.toInt.toNat = 0 ∨ 16 ≤ h_r h (r_I h) x1.toInt.toNat := by
    rcases el with q | ⟨-, -, q⟩
    · exact Or.inl q.1
    · exact Or.inr ((t_spec ht (by decide) (rfl : c_sp[97]? = some _) q).2.2.1 rfl)
  refine hI_al (k := 0) rfl e0 rfl ?_
  refine hI_gr rfl rfl rfl k16 rfl ?_
  refine hI_il (k := 1) rfl e1 rfl ?_
  refine hI_aa (o := r_I h) rfl ⟨by rw [kI]; decide, by rw [kI]; decide⟩ b0 (by omega) rfl ?_
  refine hI_nn (t := 33) rfl (by decide) rfl el16 (fun hne => ?_) (fun he => ?_)
  · refine fin ρ h n1 n2 ⟨⟨FQ.refl _ _ _, ht⟩, ?_, fun _ => ⟨rfl, rfl⟩, fun z => absurd z hne, fun a _ => ⟨rfl, fun j => ⟨rfl, rfl, fun _ => rfl⟩⟩, fun z => absurd z hne⟩
    rcases el with q | ⟨-, -, q⟩
    · exact absurd q.1 hne
    · exact q
  · refine hI_al (k := 0) rfl e0 rfl ?_
    refine hI_gr rfl rfl rfl k16 rfl ?_
    refine hI_il (k := 1) rfl e1 rfl ?_
    refine hS_new (c := 6) (j := 0) (sx_start (h := h)) rfl rfl (by decide) rfl rfl (fun h1 S1 => ?_)
    have S2 : SX h h1 [((7, 6), [])] 6 := sx_eq S1 (by decide +kernel)
    refine hI_dup rfl rfl rfl ?_
    refine hS_call (j := 2) (q := 0) S2 rfl rfl (by decide +kernel) rfl (by decide) rfl (by decide +kernel) rfl (by show 3 ≤ 8; decide) (by decide +kernel) rfl ?_
    refine c_told S2 (fun h2 S => ?_)
    show HJ 94 32 lv [.ref (16 + h_n h + 0), .int x1, .ref (r_I h)] h2 Q
    have T9 : TH c_sp (nx_rho (16 + h_n h) told_R ρ) h2 := sx_TH ht S told_T
    have Q9 : FQ ρ (nx_rho (16 + h_n h) told_R ρ) w_im h h2 := sx_FQ ht S (by decide +kernel)
    have fI' : nx_rho (16 + h_n h) told_R ρ (r_I h) = 8 := (nx_old Il).trans fI
    have c0 := S.2.2 0 _ rfl
    have kI2 : (h_k h2 (r_I h)).1 = 30 ∧ 3 ≤ (h_k h2 (r_I h)).2 := by rw [(S.2.1 _ Il).1]; exact ⟨kI, lI⟩
    refine hI_aast (o := r_I h) (x := 16 + h_n h + 0) rfl I16 (by rw [kI2.1]; decide) b0 (by have := kI2.2; omega) (by omega) (by rw [c0.1, kI2.1]; rfl) rfl ?_
    have r7 : nx_rho (16 + h_n h) told_R ρ (16 + h_n h + 0) = 97 := nx_new
    have T10 := s_srT (k := x1.toInt.toNat) (x := 16 + h_n h + 0) T9 (rfl : c_sp[8]? = some _) fI' (f := (97, false)) rfl (Or.inr ⟨by omega, by decide, r7⟩)
    have Q10 : FQ (nx_rho (16 + h_n h) told_R ρ) (nx_rho (16 + h_n h) told_R ρ) w_im h2 (h_sr h2 (r_I h) x1.toInt.toNat (16 + h_n h + 0)) := (FS.ofFR (s_srF fI' (Or.inr List.mem_cons_self))).fq
    generalize hh : h_sr h2 (r_I h) x1.toInt.toNat (16 + h_n h + 0) = h3 at T10 Q10 ⊢
    have s3k : ∀ a, h_k h3 a = h_k h2 a := fun a => by rw [← hh]; rfl
    have s3n : h_n h3 = h_n h2 := by rw [← hh]; rfl
    have s3z : h_z h3 = h_z h2 := by rw [← hh]; rfl
    have s3r : ∀ a j, ¬ (a = r_I h ∧ j = x1.toInt.toNat) → h_r h3 a j = h_r h2 a j := fun a j hn => by rw [← hh, s_srR, if_neg hn]
    have s30 : h_r h3 (r_I h) x1.toInt.toNat = 16 + h_n h + 0 := by rw [← hh, s_srR, if_pos ⟨rfl, rfl⟩]
    have pk : ∀ a, a < 16 + h_n h → h_k h3 a = h_k h a := fun a ha => (s3k a).trans (S.2.1 a ha).1
    have pr : ∀ a j, a < 16 + h_n h → ¬ (a = r_I h ∧ j = x1.toInt.toNat) → h_r h3 a j = h_r h a j := fun a j ha hn => (s3r a j hn).trans ((S.2.1 a ha).2 j).2.2
    have en : h_n h2 = h_n h + told_D.length := S.1.1
    have el0 : told_D.length ≤ 20 := by decide +kernel
    have ez : h_z h2 = h_z h + told_Z := S.1.2
    have ez0 : told_Z ≤ 1400 := by decide +kernel
    have n4 : t_nd (nx_rho (16 + h_n h) told_R ρ) h3 := c_PTx 1 _ _ w_im h h3 ht (Q9.trans Q10) (by decide +kernel) n1
    have R4 : t_rm (nx_rho (16 + h_n h) told_R ρ) h3 := rm_img (k9 := x1.toInt.toNat) (d := told_D.length) (z := told_Z) ht (Q9.trans Q10) (by decide +kernel) (by omega) he (by omega) el0 (by omega) ez0 (fun k hk hne => pr _ k Il (fun z => hne z.2)) (by rw [s30]; omega) n2
    refine fin _ h3 n4 R4 ⟨⟨Q9.trans Q10, T10⟩, by rw [s30]; exact r7, fun z => absurd he z, fun _ => by rw [s30]; exact Nat.le_add_right _ _, fun a ha => ⟨pk a ha, fun j => ⟨?_, ?_, fun hn => pr a j ha hn⟩⟩, fun _ => ?_⟩
    · rw [← hh]
      exact ((S.2.1 a ha).2 j).1
    · rw [← hh]
      exact ((S.2.1 a ha).2 j).2.1
    · rw [s30]
      have hr : ∀ (j k q : Nat) (c : NC), told_D[j]? = some c → k < 1000 → (c.1.1 < 20 ∨ 30 ≤ c.1.1) → m_lk c.2 k = some q → h_r h3 (16 + h_n h + j) k = 16 + h_n h + q := fun j k q c e hk hc hq => by
        rw [s3r _ _ (fun z => by have := z.1; omega), ((S.2.2 j c e).2 k hk).2 hc]
        unfold nc_r
        rw [hq]
      have ac : ∀ r, r < 4 → q_ac h3 (16 + h_n h + 0) r = 16 + h_n h + (3 + 3 * r) ∧ h_r h3 (16 + h_n h + (3 + 3 * r)) 0 = 16 + h_n h + (4 + 3 * r) ∧ h_r h3 (16 + h_n h + (3 + 3 * r)) 1 = 16 + h_n h + (5 + 3 * r) := fun r hr4 => by
        unfold q_ac
        rw [hr 0 1 2 _ rfl (by decide) (Or.inl (by decide)) rfl]
        match r, hr4 with
        | 0, _ => exact ⟨hr 2 0 3 _ rfl (by decide) (Or.inr (by decide)) rfl, hr 3 0 4 _ rfl (by decide) (Or.inl (by decide)) rfl, hr 3 1 5 _ rfl (by decide) (Or.inl (by decide)) rfl⟩
        | 1, _ => exact ⟨hr 2 1 6 _ rfl (by decide) (Or.inr (by decide)) rfl, hr 6 0 7 _ rfl (by decide) (Or.inl (by decide)) rfl, hr 6 1 8 _ rfl (by decide) (Or.inl (by decide)) rfl⟩
        | 2, _ => exact ⟨hr 2 2 9 _ rfl (by decide) (Or.inr (by decide)) rfl, hr 9 0 10 _ rfl (by decide) (Or.inl (by decide)) rfl, hr 9 1 11 _ rfl (by decide) (Or.inl (by decide)) rfl⟩
        | 3, _ => exact ⟨hr 2 3 12 _ rfl (by decide) (Or.inr (by decide)) rfl, hr 12 0 13 _ rfl (by decide) (Or.inl (by decide)) rfl, hr 12 1 14 _ rfl (by decide) (Or.inl (by decide)) rfl⟩
      refine ⟨by rw [hr 0 0 1 _ rfl (by decide) (Or.inl (by decide)) rfl]; omega, fun r hr4 => ?_, fun r s hr4 hs4 hn => ?_⟩
      · obtain ⟨a1, a2, a3⟩ := ac r hr4
        rw [a1, a2, a3]
        omega
      · obtain ⟨a1, a2, a3⟩ := ac r hr4
        obtain ⟨b1, b2, b3⟩ := ac s hs4
        have hrs : r ≠ s := hn.resolve_left (fun z => z rfl)
        rw [a1, b1, a2, b2, a3, b3]
        omega
end
