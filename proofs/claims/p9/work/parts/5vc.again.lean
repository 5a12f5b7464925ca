-- AN IMAGE LAID AGAIN: each row's past is the run of its acts
def w_ag8 : List (Nat × Nat) := c_m41.2.1 ++ c_m45.2.1
def w_ag7 : List (Nat × Nat) := c_m95.2.1 ++ w_ag8
theorem l_ag {ρ0 : Nat → Nat} {h0 : MH} {Q : Option Value → MH → Prop} (t0 : TH c_sp ρ0 h0) (h16 : ρ0 16 = 6) (av : av_t h0 (h_r h0 16 0)) (g : ∀ (ρ' : Nat → Nat) (h' : MH) (x : Int32), x.toInt = 1 → FQ ρ0 ρ' w_ag8 h0 h' → TH c_sp ρ' h' → c_PT 1 ρ' h' → c_PT 2 ρ' h' → pl_t h' → (∀ s : Nat, (s : Int) < q_fd h0 (h_r h0 16 0) 5 → r_sl h' s ≠ 0 ∧ bk_0 h' (r_sl h' s) (ac_Y h0 (q_ac h0 (h_r h0 16 0) s))) → Q (some (.int x)) h') : ∀ (d i : Nat) (ρ : Nat → Nat) (h : MH) (lv : List (Nat × Value)) (xi : Int32), i + d = 4 → xi.toInt = (i : Int) → m_lk lv 0 = some (.ref 16) → m_lk lv 2 = some (.int xi) → CCok c_CC ρ → FQ ρ0 ρ w_ag8 h0 h → TH c_sp ρ h → c_PT 1 ρ h → c_PT 2 ρ h → pl_t h → (∀ s : Nat, s < i → r_sl h s ≠ 0 ∧ bk_0 h (r_sl h s) (ac_Y h0 (q_ac h0 (h_r h0 16 0) s))) → HJ 96 35 lv [] h Q := by
  have fN0 := nw_ob t0 h16
  obtain ⟨-, r54, -, -⟩ := td_r4N t0 fN0
  generalize hN : h_r h0 16 0 = N at *
  have l160 := (t0.2 16 (by rw [h16]; decide)).1
  intro d
  induction d with
  | zero =>
    intro i ρ h lv xi hd qi e0 e2 hC f t m1 m2 pl bk
    have h16' : ρ 16 = 6 := (f.2.1 16 (by rw [h16]; decide)).trans h16
    have fN : ρ N = 7 := (f.2.1 N (by rw [fN0]; decide)).trans fN0
    have k16 : (h_k h 16).1 = 9 := (t_spec t (by decide) (rfl : c_sp[6]? = some _) h16').1
    have kN : (h_k h N).1 = 7 := (t_spec t (by decide) (rfl : c_sp[7]? = some _) fN).1
    have eN : h_r h 16 0 = N := ((fq_f f (D := [(6, 0)]) (by decide +kernel) (List.mem_singleton.mpr rfl) (by decide) h16 l160).2).trans hN
    have out : HJ 96 74 lv [] h Q := hM_ic (n := 1) rfl (by decide) rfl (fun x q => hM_rb rfl rfl q (by decide) (by decide) (g ρ h x q f t m1 m2 pl (fun s hs => bk s (by omega))))
    refine hI_il (k := 2) rfl e2 rfl ?_
    refine hI_al (k := 0) rfl e0 rfl ?_
    refine hI_gr rfl rfl rfl k16 rfl ?_
    rw [eN]
    refine hI_gi (c := 6) (k := 5) rfl rfl rfl kN rfl ?_
    refine hM_cge (off := 31) (t := 74) rfl qi (zy := q_fd h N 5) rfl (by decide) rfl (fun _ => out) (fun _ => ?_)
    refine hI_il (k := 2) rfl e2 rfl ?_
    refine hM_ic (n := 4) rfl (by decide) rfl (fun x4 q4 => ?_)
    exact hM_cge (off := 26) (t := 74) rfl qi q4 (by decide) rfl (fun _ => out) (fun c => absurd c (by omega))
  | succ d ih =>
    intro i ρ h lv xi hd qi e0 e2 hC f t m1 m2 pl bk
    have h16' : ρ 16 = 6 := (f.2.1 16 (by rw [h16]; decide)).trans h16
    have fN : ρ N = 7 := (f.2.1 N (by rw [fN0]; decide)).trans fN0
    have k16 : (h_k h 16).1 = 9 := (t_spec t (by decide) (rfl : c_sp[6]? = some _) h16').1
    have kN : (h_k h N).1 = 7 := (t_spec t (by decide) (rfl : c_sp[7]? = some _) fN).1
    have eN : h_r h 16 0 = N := ((fq_f f (D := [(6, 0)]) (by decide +kernel) (List.mem_singleton.mpr rfl) (by decide) h16 l160).2).trans hN
    have sN := td_frN t0 f (by decide +kernel) fN0
    have e5 : q_fd h N 5 = q_fd h0 N 5 := congrArg Int32.toInt (sN.1 5 (by decide))
    have out : q_fd h0 N 5 ≤ (i : Int) → HJ 96 74 lv [] h Q := fun c => hM_ic (n := 1) rfl (by decide) rfl (fun x q => hM_rb rfl rfl q (by decide) (by decide) (g ρ h x q f t m1 m2 pl (fun s hs => bk s (by omega))))
    refine hI_il (k := 2) rfl e2 rfl ?_
    refine hI_al (k := 0) rfl e0 rfl ?_
    refine hI_gr rfl rfl rfl k16 rfl ?_
    rw [eN]
    refine hI_gi (c := 6) (k := 5) rfl rfl rfl kN rfl ?_
    refine hM_cge (off := 31) (t := 74) rfl qi (zy := q_fd h N 5) rfl (by decide) rfl (fun c => out (by omega)) (fun c5 => ?_)
    refine hI_il (k := 2) rfl e2 rfl ?_
    refine hM_ic (n := 4) rfl (by decide) rfl (fun x4 q4 => ?_)
    refine hM_cge (off := 26) (t := 74) rfl qi q4 (by decide) rfl (fun c => absurd c (by omega)) (fun _ => ?_)
    refine hI_al (k := 0) rfl e0 rfl ?_
    refine hI_il (k := 2) rfl e2 rfl ?_
    refine hM_iv (MX.start (W := []) t h16') (by decide) rfl rfl (by decide) (as := [.int xi]) (r := []) rfl rfl (by decide +kernel) rfl (by decide +kernel) rfl rfl rfl rfl rfl ?_
    refine c_pf (k := i) hC t h16' m1 m2 pl (by omega) (by omega) (by omega) (fun ρ6 h6 p f6 t6 m1 m2 tp p6 pl6 so6 sk6 => ?_)
    show HJ 96 56 lv [.ref p] h6 Q
    have f06 : FQ ρ0 ρ6 w_ag8 h0 h6 := f.trans (f6.mono (by decide +kernel))
    have h166 : ρ6 16 = 6 := (f6.2.1 16 (by rw [h16']; decide)).trans h16'
    have fN6 : ρ6 N = 7 := (f6.2.1 N (by rw [fN]; decide)).trans fN
    have k166 : (h_k h6 16).1 = 9 := (t_spec t6 (by decide) (rfl : c_sp[6]? = some _) h166).1
    have kN6 : (h_k h6 N).1 = 7 := (t_spec t6 (by decide) (rfl : c_sp[7]? = some _) fN6).1
    have eN6 : h_r h6 16 0 = N := ((fq_f f06 (D := [(6, 0)]) (by decide +kernel) (List.mem_singleton.mpr rfl) (by decide) h16 l160).2).trans hN
    have s6 := td_frN t0 f06 (by decide +kernel) fN0
    obtain ⟨-, oR, oA⟩ := td_obN t6 fN6
    have kR := t_spec t6 (by decide) (rfl : c_sp[10]? = some _) oR
    have kR1 : (h_k h6 (h_r h6 N 1)).1 = 32 := kR.1
    have kR2 : 4 ≤ (h_k h6 (h_r h6 N 1)).2 := kR.2.1.1
    have i4 : i < 4 := by omega
    obtain ⟨a1, a2⟩ := s6.2.2.2 i i4
    have am : ac_sm h0 h6 (q_ac h0 N i) := ⟨a2.1, a2.2.2⟩
    refine hI_al (k := 0) rfl e0 rfl ?_
    refine hI_gr rfl rfl rfl k166 rfl ?_
    rw [eN6]
    refine hI_gr (c := 6) (k := 1) rfl rfl rfl kN6 rfl ?_
    refine hI_il (k := 2) rfl e2 rfl ?_
    refine hI_aa rfl (by rw [kR1]; decide) (by omega) (by omega) rfl ?_
    rw [show xi.toInt.toNat = i by omega]
    show HJ 96 65 lv [.ref (q_ac h6 N i), .ref p] h6 Q
    rw [a1]
    refine hM_iv (MX.start (W := []) t6 tp) (by decide) rfl rfl (by decide) (as := [.ref (q_ac h0 N i)]) (r := []) rfl rfl (by decide +kernel) rfl (by decide +kernel) rfl rfl rfl rfl rfl ?_
    refine c_ruN (k := i) (hC.x f6) t6 h166 m1 m2 pl6 i4 p6 (by rw [← a1]; exact (oA i i4).1) (ac_smV am (av i (by omega))) (fun ρ7 h7 f7 t7 m1 m2 pl7 so7 sk7 bk7 => ?_)
    show HJ 96 68 lv [] h7 Q
    refine hM_inc (k := 2) (z := 1) rfl e2 qi (by decide) (by omega) (by omega) (by decide +kernel) rfl (fun lv' w qw e2' u => ?_)
    refine hI_go (pc' := 35) (off := -36) rfl (by decide) ?_
    refine ih (i + 1) ρ7 h7 lv' w (by omega) (by omega) (u 0 _ (by decide) (Or.inl rfl) e0) e2' ((hC.x f6).x f7) (f06.trans (f7.mono (by decide +kernel))) t7 m1 m2 pl7 (fun s hs => ?_)
    by_cases es : s = i
    · rw [es, so7, p6.2, ← ac_smY am]
      exact ⟨p6.1, bk7⟩
    · obtain ⟨y1, y2⟩ := bk s (by omega)
      obtain ⟨z1, z2⟩ := sk_T (sk6 s (by omega)) (sk7 s (by omega) es) y1
      rw [z1]
      exact ⟨y1, z2 _ y2⟩
theorem fi_rg {ρ : Nat → Nat} {h : MH} {a R k : Nat} {rs : RS} {lo hi : Int} (ht : TH c_sp ρ h) (hR : R ≠ 0) (hs : c_sp[R]? = some rs) (hf : rs.2.2.2[k]? = some (.inl (lo, hi))) (ha : ρ a = R) (hn : rs.2.2.1 = false := by rfl) : lo ≤ (h_i h a k).toInt ∧ (h_i h a k).toInt ≤ hi := by
  have c := t_spec ht hR hs ha
  exact c.2.2.2 k (.inl (lo, hi)) (by unfold r_ft; rw [hn]; exact hf) (fun z => by rw [hn] at z; cases z)
section
variable {Q : Option Value → MH → Prop} {ρ : Nat → Nat} {m : Nat} {lv : List (Nat × Value)} {h : MH}
theorem c_again7 {x1 : Int32} (hC : CCok c_CC ρ) (ht : TH c_sp ρ h) (hm : ρ m = 6) (n1 : c_PT 1 ρ h) (n2 : c_PT 2 ρ h) (n15 : c_PT 15 ρ h) (ow : ow_ne h (h_r h 16 0) (h_r h 16 0)) (e0 : m_lk lv 0 = some (.ref m)) (e1 : m_lk lv 1 = some (.int x1)) (g0 : ∀ x : Int32, x.toInt = 0 → (x1.toInt < 0 ∨ 3 ≤ x1.toInt) ∨ (0 ≤ x1.toInt ∧ x1.toInt < 3 ∧ r_im h x1.toInt.toNat = 0) → Q (some (.int x)) h) (g1 : ∀ (ρ' : Nat → Nat) (h' : MH) (x : Int32), x.toInt = 1 → 0 ≤ x1.toInt → x1.toInt < 3 → r_im h x1.toInt.toNat ≠ 0 → FQ ρ ρ' w_ag7 h h' → TH c_sp ρ' h' → c_PT 1 ρ' h' → c_PT 2 ρ' h' → c_PT 15 ρ' h' → pc_eq h (r_im h x1.toInt.toNat) h' (h_r h 16 0) → Q (some (.int x)) h') : HJ 96 0 lv [] h Q := by
  have m16 : m = 16 := n2.1.2.2.2.2.2.1 m hm
  subst m16
  have fI : ρ (r_I h) = 8 := (th_rf ht (R := 6) (by decide) rfl hm (k := 1) rfl (fun z => by cases z)).2
  have fN : ρ (h_r h 16 0) = 7 := (th_rf ht (R := 6) (by decide) rfl hm (k := 0) rfl (fun z => by cases z)).2
  have k16 : (h_k h 16).1 = 9 := (t_spec ht (by decide) (rfl : c_sp[6]? = some _) hm).1
  have cI := t_spec ht (by decide) (rfl : c_sp[8]? = some _) fI
  have kI : (h_k h (r_I h)).1 = 30 := cI.1
  have lI : 3 ≤ (h_k h (r_I h)).2 := cI.2.1.1
  have bad : (x1.toInt < 0 ∨ 3 ≤ x1.toInt) ∨ (0 ≤ x1.toInt ∧ x1.toInt < 3 ∧ r_im h x1.toInt.toNat = 0) → HJ 96 18 lv [] h Q := fun hb => hM_ic (n := 0) rfl (by decide) rfl (fun x q => hM_rb rfl rfl q (by omega) (by omega) (g0 x q hb))
  refine hI_il (k := 1) rfl e1 rfl ?_
  refine hM_zlt (off := 17) (t := 18) rfl rfl (by decide) rfl (fun c => bad (Or.inl (Or.inl c))) (fun cA => ?_)
  refine hI_il (k := 1) rfl e1 rfl ?_
  refine hM_ic (n := 3) rfl (by decide) rfl (fun x3 q3 => ?_)
  refine hM_cge (off := 12) (t := 18) rfl rfl q3 (by decide) rfl (fun c => bad (Or.inl (Or.inr c))) (fun cB => ?_)
  have el : t_rf ρ 97 false (h_r h (r_I h) x1.toInt.toNat) := cI.2.2.2 x1.toInt.toNat (.inr (.inr (97, false))) rfl (fun _ => by omega)
  have el16 : h_r h (r_I h) x1.toInt.toNat = 0 ∨ 16 ≤ h_r h (r_I h) x1.toInt.toNat := by
    rcases el with q | ⟨-, -, q⟩
    · exact Or.inl q.1
    · exact Or.inr ((t_spec ht (by decide) (rfl : c_sp[97]? = some _) q).2.2.1 rfl)
  refine hI_al (k := 0) rfl e0 rfl ?_
  refine hI_gr rfl rfl rfl k16 rfl ?_
  refine hI_il (k := 1) rfl e1 rfl ?_
  refine hI_aa (o := r_I h) rfl ⟨by rw [kI]; decide, by rw [kI]; decide⟩ cA (by omega) rfl ?_
  refine hI_nn (t := 20) rfl (by decide) rfl el16 (fun hne => ?_) (fun he => bad (Or.inr ⟨cA, cB, he⟩))
  have rI : ρ (h_r h (r_I h) x1.toInt.toNat) = 97 := by
    rcases el with q | ⟨-, -, q⟩
    · exact absurd q.1 hne
    · exact q
  refine hI_al (k := 0) rfl e0 rfl ?_
  refine hI_gr rfl rfl rfl k16 rfl ?_
  refine hI_al (k := 0) rfl e0 rfl ?_
  refine hI_gr rfl rfl rfl k16 rfl ?_
  refine hI_il (k := 1) rfl e1 rfl ?_
  refine hI_aa (o := r_I h) rfl ⟨by rw [kI]; decide, by rw [kI]; decide⟩ cA (by omega) rfl ?_
  refine hM_iv (MX.start (W := []) ht fN) (by decide) rfl rfl (by decide) (as := [.ref (h_r h (r_I h) x1.toInt.toNat)]) (r := []) rfl rfl (by decide +kernel) rfl (by decide +kernel) rfl rfl rfl rfl rfl ?_
  have bI := fi_rg ht (by decide) rfl (k := 2) rfl rI
  refine HJ.both (r_toldN ht fN rI ow (Q := fun v h2 => v = none ∧ ct_I h (h_r h 16 0) (h_r h (r_I h) x1.toInt.toNat) 4 h2) (fun h2 I => ⟨rfl, I⟩)) (c_k95 (Q := fun v h2 => ∃ ρ2, FQ ρ ρ2 c_m95.2.1 h h2 ∧ TH c_sp ρ2 h2) hC ht rfl rfl fN rI bI (fun ρ2 h2 f2 t2 _ _ => ⟨ρ2, f2, t2⟩)) (fun v h2 ⟨ev, I⟩ ⟨ρ2, f2, t2⟩ => ?_)
  subst ev
  · obtain ⟨er, fs⟩ := FS.ofFQ (by decide +kernel) f2
    subst er
    show HJ 96 33 lv [] h2 Q
    have l16 := (ht.2 16 (by rw [hm]; decide)).1
    have eN2 : h_r h2 16 0 = h_r h 16 0 := (fq_f f2 (D := [(6, 0)]) (by decide +kernel) (List.mem_singleton.mpr rfl) (by decide) hm l16).2
    have av2 : av_t h2 (h_r h2 16 0) := by
      rw [eN2]
      exact av_pc (ct_pc I) (td_bdI ht rI) (n15.2.2.2.2 x1.toInt.toNat (by omega) hne)
    refine hM_ic (n := 0) rfl (by decide) rfl (fun x0 q0 => hM_si (k := 2) rfl (by decide +kernel) rfl (fun lv2 e2 u2 => ?_))
    refine l_ag t2 hm av2 (fun ρ3 h3 x qx f3 t3 m1 m2 pl3 bk3 => ?_) 4 0 ρ2 h2 lv2 x0 rfl q0 (u2 0 _ (by decide) (Or.inl rfl) e0) e2 (hC.x f2) (FQ.refl _ _ _) t2 (c_PTx 1 _ _ _ h h2 ht f2 (by decide +kernel) n1) (c_PTx 2 _ _ _ h h2 ht f2 (by decide +kernel) n2) ((sk_fr ht f2 (by decide +kernel) hm).1 n15.2.1) (fun s hs => absurd hs (Nat.not_lt_zero s))
    rw [eN2] at bk3
    have s3 := td_frN t2 f3 (by decide +kernel) fN
    have fa : FQ ρ2 ρ3 w_ag7 h h3 := (f2.mono (by decide +kernel)).trans (f3.mono (by decide +kernel))
    have pc3 : pc_eq h (r_im h x1.toInt.toNat) h3 (h_r h 16 0) := pc_eqT (ct_pc I) (pc_same s3)
    have eN3 : h_r h3 16 0 = h_r h 16 0 := (fq_f fa (D := [(6, 0)]) (by decide +kernel) (List.mem_singleton.mpr rfl) (by decide) hm l16).2
    refine g1 ρ3 h3 x qx cA cB hne fa t3 m1 m2 ⟨(fa.2.1 16 (by rw [hm]; decide)).trans hm, pl3, fun r hr => ?_, by rw [eN3]; exact av_pc pc3 (td_bdI ht rI) (n15.2.2.2.2 x1.toInt.toNat (by omega) hne), fun k hk h0 => ?_⟩ pc3
    · have e5 : q_fd h3 (h_r h 16 0) 5 = q_fd h2 (h_r h 16 0) 5 := congrArg Int32.toInt (s3.1 5 (by decide))
      rw [eN3, e5] at hr
      have b5 := (td_bdN t2 fN).2.1
      obtain ⟨a1, a2⟩ := s3.2.2.2 r (by omega)
      have am : ac_sm h2 h3 (q_ac h2 (h_r h 16 0) r) := ⟨a2.1, a2.2.2⟩
      rw [eN3, a1, ac_smY am]
      exact bk3 r hr
    · have eI := im_eq ht fa hm (D := [(6, 1), (8, 1001), (8, 1002)]) (by decide +kernel) (by decide) (by decide) (by decide) k
      rw [eI] at h0 ⊢
      have oI := im_ob ht hm k hk h0
      exact av_pc (pc_same (td_frI ht fa (by decide +kernel) oI)) (td_bdI ht oI) (n15.2.2.2.2 k hk h0)
end
