-- THE LAW'S CASES THAT ARE GONE ON BY HAND: feed, end, text, image, again
-- the law's own row: its elements stay
theorem sc_fr {ρ ρ' : Nat → Nat} {W : List (Nat × Nat)} {h h' : MH} {s : Nat} (ht : TH c_sp ρ h) (f : FQ ρ ρ' W h h') (hs : ρ s = 5) (hn : d_no [(5, 1001), (5, 1002)] W = true) : ρ' s = 5 ∧ h_k h' s = h_k h s ∧ ∀ j, h_i h' s j = h_i h s j := by
  have l := (ht.2 s (by rw [hs]; decide)).1
  exact ⟨(f.2.1 s (by rw [hs]; decide)).trans hs, (f.2.2.2 s l).1, fun j => (fq_e j f hn (List.mem_of_getElem? (i := 0) rfl) (List.mem_of_getElem? (i := 1) rfl) hs l).1⟩
-- rows of acts, copied
theorem p_rwC {f t : Nat} {a b : Nat → Int} (c : cp_r 644 f t a b) (f3 : f ≤ 3) (h : p_rw a) : p_rw b := fun q hq => by
  by_cases e : 161 * q < 644 * t ∨ 644 * t + 644 ≤ 161 * q
  · rw [c.2 _ e]
    exact h q hq
  · have e1 : 161 * q = 644 * t + 161 * (q - 4 * t) := by omega
    rw [e1, c.1 _ (by omega), show 644 * f + 161 * (q - 4 * t) = 161 * (4 * f + (q - 4 * t)) by omega]
    exact h _ (by omega)
-- the relation, out of its parts
theorem rt_mk {ρ : Nat → Nat} {h : MH} {m : Nat} (h16 : ρ 16 = 6) (um : t_um ρ) (hm : ρ m = 49) (a : td_rel h (h_r h 16 0) m 0) (b : ∀ k, k < 3 → r_im h k ≠ 0 → td_rel h (r_im h k) m (k + 1)) : c_PT 12 ρ h := ⟨h16, um, fun m' e => by rw [um m' m e hm]; exact ⟨a, b⟩⟩
-- rows of acts as they were
theorem acs_fr {ρ ρ' : Nat → Nat} {W : List (Nat × Nat)} {h h' : MH} {N : Nat} (ht : TH c_sp ρ h) (f : FQ ρ ρ' W h h') (h1 : d_no td_EN W = true) (h2 : d_no ac_DN W = true) (fN : ρ N = 7) : tx_acs h h' N (fun _ => True) := fun r hr _ => ⟨((td_rfN ht f h1 fN).2 r hr).1, ac_frN ht f h2 ((td_obN ht fN).2.2 r hr).1⟩
theorem acs_T {h h1 h2 : MH} {N : Nat} {P : Nat → Prop} (e : tx_acs h h1 N P) (f : tx_acs h1 h2 N P) : tx_acs h h2 N P := fun r hr hp => by
  obtain ⟨a1, a2⟩ := e r hr hp
  obtain ⟨b1, b2⟩ := f r hr hp
  rw [a1] at b1 b2
  exact ⟨b1, ac_sameT a2 b2⟩
-- what is told now, with its rows of acts as they were
theorem td_new {h h' : MH} {N m : Nat} (acs : tx_acs h h' N (fun _ => True)) (u6 : ∀ j, j < 644 → q_vm h' m 6 j = q_vm h m 6 j) (r5 : q_fd h' N 5 = q_fd h N 5) (v5 : q_vm h' m 5 0 = q_vm h m 5 0) (b : td_bd h N) (t : td_rel h N m 0) (e2 : q_fd h' N 2 = q_vm h' m 2 0) (e3 : q_fd h' N 3 = q_vm h' m 3 0) (e4 : q_fd h' N 4 = q_vm h' m 4 0) (tp : ∀ j : Nat, (j : Int) < q_fd h' N 2 → q_tp h' N j = q_vm h' m 1 j) : td_rel h' N m 0 := by
  obtain ⟨⟨-, -, -, k5⟩, -, k7⟩ := t
  obtain ⟨-, b5, b40⟩ := b
  refine ⟨⟨e2, e3, e4, by rw [r5, v5]; exact k5⟩, fun j hj => ?_, fun r hr => ?_⟩
  · rw [show 600 * 0 + j = j by omega]
    exact tp j hj
  · rw [r5] at hr
    have r4 : r < 4 := by omega
    obtain ⟨a1, a2⟩ := acs r r4 trivial
    obtain ⟨y1, y2⟩ := k7 r hr
    have b4 := b40 r r4
    rw [a1]
    have e9 : q_fd h' (q_ac h N r) 2 = q_fd h (q_ac h N r) 2 := congrArg Int32.toInt a2.1
    refine ⟨by rw [e9, u6 _ (by omega)]; exact y1, fun k hk => ?_⟩
    rw [e9] at hk
    obtain ⟨w1, w2⟩ := y2 k hk
    exact ⟨by rw [(a2.2.2 k).1, u6 _ (by omega)]; exact w1, fun i hi => by rw [(a2.2.2 _).2, u6 _ (by omega)]; exact w2 i hi⟩
theorem vm_same_of {h h' : MH} {m s : Nat} (e : vm_same h h' m) : vm_eq h m s h' s := vm_sameE e
section
variable {Q : Option Value → MH → Prop} {ρ : Nat → Nat} {m : Nat} {lv : List (Nat × Value)} {h : MH}
-- the reference's copy, exactly
theorem c_ca {W : List (Nat × Nat)} {A : Nat → Nat} {V : Nat → Nat → Int} {G : Nat → Nat → Int64} {h0 : MH} (hw : d_sub w_cA W = true) : ca_ok W ρ m A h0 V G (fun a b _ V' => cp_all a.toNat b.toNat V V') := fun h F x1 x2 Q' M a0 a1 b0 b1 ne g => c_copyAll (f := x1.toInt.toNat) (t := x2.toInt.toNat) M hw (by omega) (by omega) (by omega) (by omega) (by omega) (fun h' V' M' c => g h' F V' G M' (c.2.2.2.2.2.2 67 (Or.inr (by decide))) c)
end
def c_hb : CT := (2036, (c_lS, ([1, 2, 7, 10, 12, 13, 14, 15], ([(3, (-3))], 2999))))
def c_h0 : CT := (196, (c_lS, ([1, 2, 7, 10, 12, 13, 14, 15], ([(3, (-3))], 3000))))
def c_h1 : CT := (259, (c_lS, ([1, 2, 7, 10, 12, 13, 14, 15], ([(3, (-3))], 3000))))
def c_h2 : CT := (282, (c_lS, ([1, 2, 7, 10, 12, 13, 14, 15], ([(3, (-3))], 3000))))
def c_h30 : CT := (1732, (c_lS, ([1, 2, 7, 10, 12, 13, 14, 15], ([(3, (-3))], 3000))))
def c_h35 : CT := (1990, (c_lS, ([1, 2, 7, 10, 12, 13, 14, 15], ([(3, (-3))], 3000))))
def c_h36 : CT := (2013, (c_lS, ([1, 2, 7, 10, 12, 13, 14, 15], ([(3, (-3))], 3000))))
def hd_l (C : CT) : Bool := Nat.beq C.1 196 || Nat.beq C.1 259 || Nat.beq C.1 282 || Nat.beq C.1 1732 || Nat.beq C.1 1990 || Nat.beq C.1 2013
theorem hb_mem : c_hb ∈ c_lcuts := List.mem_of_getElem? (i := 38) rfl
def w_mg : List (Nat × Nat) := (49, 0) :: (96, 1001) :: w_cA
def w_m2 : List (Nat × Nat) := (49, 0) :: w_cA
theorem t_7 {ρ : Nat → Nat} {h : MH} (a1 : c_PT 1 ρ h) (a2 : c_PT 2 ρ h) (a7 : c_PT 7 ρ h) (a10 : c_PT 10 ρ h) (a12 : c_PT 12 ρ h) (a13 : c_PT 13 ρ h) (a14 : c_PT 14 ρ h) (a15 : c_PT 15 ρ h) : ∀ t ∈ [1, 2, 7, 10, 12, 13, 14, 15], c_PT t ρ h := fun t mt => by
  simp only [List.mem_cons, List.not_mem_nil, or_false] at mt
  rcases mt with rfl | rfl | rfl | rfl | rfl | rfl | rfl | rfl
  · exact a1
  · exact a2
  · exact a7
  · exact a10
  · exact a12
  · exact a13
  · exact a14
  · exact a15
set_option maxRecDepth 100000 in
set_option maxHeartbeats 1000000 in
theorem case_0 : d_hand c_sp c_CC c_PT 0 c_m0 c_lcuts c_h0 := fun ρ K KA lv h σ α Q hC ht hw hT go => by
  obtain ⟨⟨e0, r0⟩, ⟨e1, r1⟩, ⟨e2, r2⟩, x, e3, qx, x0, x5, xl⟩ := lc_in hw
  have n1 := hT 1 (by decide)
  have n2 := hT 2 (by decide)
  have n7 := hT 7 (by decide)
  have n10 := hT 10 (by decide)
  have n12 := hT 12 (by decide)
  have n13 := hT 13 (by decide)
  have n14 := hT 14 (by decide)
  have n15 := hT 15 (by decide)
  have m16 : α 1 = 16 := n2.1.2.2.2.2.2.1 _ r1
  have h16 := n10.1
  have um := n10.2.1
  obtain ⟨rN, rI⟩ := n12.2.2 (α 2) r2
  have fN := nw_ob ht h16
  have fin : ∀ (ρ' : Nat → Nat) (h' : MH), FQ ρ ρ' c_m0.2.1 h h' → TH c_sp ρ' h' → c_PT 1 ρ' h' → c_PT 2 ρ' h' → c_PT 7 ρ' h' → c_PT 10 ρ' h' → c_PT 12 ρ' h' → c_PT 13 ρ' h' → c_PT 14 ρ' h' → c_PT 15 ρ' h' → HJ 0 2036 lv [] h' Q := fun ρ' h' f t a1 a2 a7 a10 a12 a13 a14 a15 => go c_hb hb_mem lv h' ρ' σ α f t (lc_out hw ht f) (by show 0 ≤ -3 * σ 3 + 0 + 2999; omega) (by show -3 * σ 3 + 0 + 2999 < -3 * σ 3 + 0 + 3000; omega) (t_7 a1 a2 a7 a10 a12 a13 a14 a15)
  show HJ 0 196 lv [] h Q
  refine hI_al (k := 1) rfl e1 rfl ?_
  refine hL_arg (n := 1) rfl rfl rfl rfl rfl (by decide) (by decide) (by decide) e0 e3 ht r0 x0 (by first | exact xl | (rw [s2]; exact xl)) ?_
  refine hL_arg (n := 2) rfl rfl rfl rfl rfl (by decide) (by decide) (by decide) e0 e3 ht r0 x0 (by first | exact xl | (rw [s2]; exact xl)) ?_
  refine hL_arg (n := 3) rfl rfl rfl rfl rfl (by decide) (by decide) (by decide) e0 e3 ht r0 x0 (by first | exact xl | (rw [s2]; exact xl)) ?_
  refine hL_arg (n := 4) rfl rfl rfl rfl rfl (by decide) (by decide) (by decide) e0 e3 ht r0 x0 (by first | exact xl | (rw [s2]; exact xl)) ?_
  refine hL_arg (n := 5) rfl rfl rfl rfl rfl (by decide) (by decide) (by decide) e0 e3 ht r0 x0 (by first | exact xl | (rw [s2]; exact xl)) ?_
  generalize hk1 : h_i h (α 0) (x.toInt + 1).toNat = xk1
  generalize hk2 : h_i h (α 0) (x.toInt + 2).toNat = xk2
  generalize hk3 : h_i h (α 0) (x.toInt + 3).toNat = xk3
  generalize hk4 : h_i h (α 0) (x.toInt + 4).toNat = xk4
  generalize hk5 : h_i h (α 0) (x.toInt + 5).toNat = xk5
  refine hM_iv (MX.start (W := []) ht r1) (by decide) rfl rfl (by decide) (as := [.int xk1, .int xk2, .int xk3, .int xk4, .int xk5]) (r := []) rfl rfl (by decide +kernel) rfl (by decide +kernel) rfl rfl rfl rfl rfl ?_
  rw [m16]
  have bN := td_r4N ht fN
  obtain ⟨u, hu⟩ : ∃ u : Nat, q_fd h (h_r h 16 0) 2 = (u : Int) := ⟨(q_fd h (h_r h 16 0) 2).toNat, by omega⟩
  refine c_feed (u := u) (MX.start (W := w_fd) ht fN) (by decide +kernel) h16 rfl (by decide +kernel) hu (fun z h2 F2 V2 M2 φ => ?_)
  show HJ 0 225 lv [.int z] h2 Q
  · skip
    obtain ⟨ρ2, e9⟩ : ∃ ρ2, ρ2 = ρ := ⟨_, rfl⟩
    have t2 := M2.1.1
    have f : FQ ρ ρ2 w_fd h h2 := by rw [e9]; exact M2.1.2.2.fq
    rw [← e9] at t2
    obtain ⟨s1, s2, s3⟩ := sc_fr ht f r0 (by decide +kernel)
    have r2' : ρ2 (α 2) = 49 := (f.2.1 _ (by rw [r2]; decide)).trans r2
    have h16' : ρ2 16 = 6 := (f.2.1 16 (by rw [h16]; decide)).trans h16
    have um2 : t_um ρ2 := fun m m' e e' => um m m' (fq_m f ht (D := [(49, 1002)]) (by decide +kernel) (by decide) (List.mem_singleton.mpr rfl) e).1 (fq_m f ht (D := [(49, 1002)]) (by decide +kernel) (by decide) (List.mem_singleton.mpr rfl) e').1
    have fN2 : ρ2 (h_r h 16 0) = 7 := (f.2.1 _ (by rw [fN]; decide)).trans fN
    refine hI_pop rfl rfl rfl ?_
    refine hI_al (k := 2) rfl e2 rfl ?_
    refine hL_arg (n := 1) rfl rfl rfl rfl rfl (by decide) (by decide) (by decide) e0 e3 t2 s1 x0 (by first | exact xl | (rw [s2]; exact xl)) ?_
    refine hL_arg (n := 2) rfl rfl rfl rfl rfl (by decide) (by decide) (by decide) e0 e3 t2 s1 x0 (by first | exact xl | (rw [s2]; exact xl)) ?_
    refine hL_arg (n := 3) rfl rfl rfl rfl rfl (by decide) (by decide) (by decide) e0 e3 t2 s1 x0 (by first | exact xl | (rw [s2]; exact xl)) ?_
    refine hL_arg (n := 4) rfl rfl rfl rfl rfl (by decide) (by decide) (by decide) e0 e3 t2 s1 x0 (by first | exact xl | (rw [s2]; exact xl)) ?_
    refine hL_arg (n := 5) rfl rfl rfl rfl rfl (by decide) (by decide) (by decide) e0 e3 t2 s1 x0 (by first | exact xl | (rw [s2]; exact xl)) ?_
    rw [s3, s3, s3, s3, s3, hk1, hk2, hk3, hk4, hk5]
    refine hM_iv (MX.start (W := []) t2 r2') (by decide) rfl rfl (by decide) (as := [.int xk1, .int xk2, .int xk3, .int xk4, .int xk5]) (r := []) rfl rfl (by decide +kernel) rfl (by decide +kernel) rfl rfl rfl rfl rfl ?_
    have v2 := vm_fr ht f (by decide +kernel) r2
    have l16 := (ht.2 16 (by rw [h16]; decide)).1
    have eN2 : h_r h2 16 0 = h_r h 16 0 := (fq_f f (D := [(6, 0)]) (by decide +kernel) (List.mem_singleton.mpr rfl) (by decide) h16 l16).2
    have eI2 := im_eq ht f h16 (D := [(6, 1), (8, 1001), (8, 1002)]) (by decide +kernel) (by decide) (by decide) (by decide)
    have cF : ∀ K, q_fd h2 (h_r h 16 0) K = F2 K := fun K => M2.2.1 K
    have cT : ∀ j, q_tp h2 (h_r h 16 0) j = V2 0 j := fun j => by
      unfold q_tp
      rw [(M2.2.2 0 (by decide +kernel)).1]
      exact ((M2.2.2 0 (by decide +kernel)).2 j).1
    have MM := MX.start (W := w_mfd) t2 r2'
    obtain ⟨VV, hV⟩ : ∃ VV : Nat → Nat → Int, VV = fun K j => (h_i h2 (h_r h2 (α 2) K) j).toInt := ⟨_, rfl⟩
    rw [← hV] at MM
    have V0e : ∀ K, (K = 1 ∨ K = 2 ∨ K = 3 ∨ K = 4 ∨ K = 5 ∨ K = 6) → ∀ j, VV K j = q_vm h (α 2) K j := fun K hK j => by rw [hV]; exact congrFun (v2 K hK) j
    have u2 : VV 2 0 = (u : Int) := ((V0e 2 (by decide) 0).trans rN.1.1.symm).trans hu
    refine c_mfeed (u := u) MM (by decide +kernel) u2 (fun y h3 F3 V3 M3 ψ => ?_)
    show HJ 0 255 lv [.int y] h3 Q
    · have qy : y.toInt = z.toInt := by
        rcases φ with ⟨a1, a2, -⟩ | ⟨a1, a2, -⟩ <;> rcases ψ with ⟨b1, b2, -⟩ | ⟨b1, b2, -⟩ <;> omega
      refine hI_pop rfl rfl rfl ?_
      refine hI_go (pc' := 2036) rfl (by decide) ?_
      have f3 := M3.1.2.2.fq
      have t3 := M3.1.1
      have eN3 : h_r h3 16 0 = h_r h 16 0 := (M3.gP h16' (by decide) (by decide +kernel)).trans eN2
      have eI3 := im_eq t2 f3 h16' (D := [(6, 1), (8, 1001), (8, 1002)]) (by decide +kernel) (by decide) (by decide) (by decide)
      have sN := td_frN t2 f3 (by decide +kernel) fN2
      have vK : ∀ K, K < 6 → q_fd h3 (h_r h 16 0) K = q_fd h2 (h_r h 16 0) K := fun K hK => congrArg Int32.toInt (sN.1 K hK)
      have vm : ∀ K, (K = 1 ∨ K = 2 ∨ K = 3 ∨ K = 4 ∨ K = 5 ∨ K = 6) → ∀ j, q_vm h3 (α 2) K j = V3 K j := fun K hK j => by
        rcases hK with rfl | rfl | rfl | rfl | rfl | rfl <;> exact M3.qv (by decide +kernel) j
      have im : (∀ k, k < 3 → vm_eq h2 (α 2) (k + 1) h3 (k + 1)) → ∀ k : Nat, k < 3 → r_im h3 k ≠ 0 → td_rel h3 (r_im h3 k) (α 2) (k + 1) := fun w k hk h0 => by
        rw [eI3, eI2] at h0 ⊢
        have oI := im_ob ht h16 k hk h0
        exact td_move (td_bdI ht oI) (pc_same (td_sameT (td_frI ht f (by decide +kernel) oI) (td_frI t2 f3 (by decide +kernel) ((f.2.1 _ (by rw [oI]; decide)).trans oI)))) (vm_eqT (vm_sameE v2) (w k hk)) (rI k hk h0)
      have ac := acs_T (acs_fr ht f (by decide +kernel) (by decide +kernel) fN) (acs_fr t2 f3 (by decide +kernel) (by decide +kernel) fN2)
      refine fin ρ2 h3 ((f.mono (by decide +kernel)).trans (f3.mono (by decide +kernel))) t3 (c_PTx 1 _ _ _ h2 h3 t2 f3 (by decide +kernel) (c_PTx 1 _ _ _ h h2 ht f (by decide +kernel) n1)) (c_PTx 2 _ _ _ h2 h3 t2 f3 (by decide +kernel) (c_PTx 2 _ _ _ h h2 ht f (by decide +kernel) n2)) (c_PTx 7 _ _ _ h2 h3 t2 f3 (by decide +kernel) (c_PTx 7 _ _ _ h h2 ht f (by decide +kernel) n7)) (c_PTx 10 _ _ _ h2 h3 t2 f3 (by decide +kernel) (c_PTx 10 _ _ _ h h2 ht f (by decide +kernel) n10)) (rt_mk ((f3.2.1 16 (by rw [h16']; decide)).trans h16') um2 r2' ?_ ?_) (c_PTx 13 _ _ _ h2 h3 t2 f3 (by decide +kernel) (c_PTx 13 _ _ _ h h2 ht f (by decide +kernel) n13)) (c_PTx 14 _ _ _ h2 h3 t2 f3 (by decide +kernel) (c_PTx 14 _ _ _ h h2 ht f (by decide +kernel) n14)) (c_PTx 15 _ _ _ h2 h3 t2 f3 (by decide +kernel) (c_PTx 15 _ _ _ h h2 ht f (by decide +kernel) n15))
      · rw [eN3]
        rcases φ with ⟨-, a2, a3, a4⟩ | ⟨-, a2, a3, a4, a5⟩
        · rcases ψ with ⟨-, b2, b3⟩ | ⟨-, b2, -⟩
          · have e : ∀ K, (K = 1 ∨ K = 2 ∨ K = 3 ∨ K = 4 ∨ K = 5 ∨ K = 6) → ∀ j, q_vm h3 (α 2) K j = q_vm h (α 2) K j := fun K hK j => by rw [vm K hK, b3, V0e K hK]
            have g : ∀ K, K < 6 → q_fd h3 (h_r h 16 0) K = q_fd h (h_r h 16 0) K := fun K hK => by rw [vK K hK, cF, a3]; rfl
            refine td_new ac (fun j _ => e 6 (by decide) j) (g 5 (by decide)) (e 5 (by decide) 0) (td_bdN ht fN) rN (by rw [g 2 (by decide), e 2 (by decide)]; exact rN.1.1) (by rw [g 3 (by decide), e 3 (by decide)]; exact rN.1.2.1) (by rw [g 4 (by decide), e 4 (by decide)]; exact rN.1.2.2.1) (fun j hj => ?_)
            rw [g 2 (by decide)] at hj
            rw [sN.2.2.1 j, cT, a4, e 1 (by decide)]
            have := rN.2.1 j hj
            rw [show 600 * 0 + j = j by omega] at this
            exact this
          · omega
        · rcases ψ with ⟨-, b2, -⟩ | ⟨-, b2, b3, b4, b5, b6⟩
          · omega
          · have e : ∀ K, (K = 3 ∨ K = 4 ∨ K = 5 ∨ K = 6) → ∀ j, q_vm h3 (α 2) K j = q_vm h (α 2) K j := fun K hK j => by rw [vm K (by omega), b6 K (by omega) (by omega), V0e K (by omega)]
            have g : ∀ K, K < 6 → K ≠ 2 → q_fd h3 (h_r h 16 0) K = q_fd h (h_r h 16 0) K := fun K hK h9 => by rw [vK K hK, cF, a5 K h9]; rfl
            have g2 : q_fd h3 (h_r h 16 0) 2 = ((u + 20 : Nat) : Int) := by rw [vK 2 (by decide), cF]; exact a4
            refine td_new ac (fun j _ => e 6 (by decide) j) (g 5 (by decide) (by decide)) (e 5 (by decide) 0) (td_bdN ht fN) rN (by rw [g2, vm 2 (by decide), b4]) (by rw [g 3 (by decide) (by decide), e 3 (by decide)]; exact rN.1.2.1) (by rw [g 4 (by decide) (by decide), e 4 (by decide)]; exact rN.1.2.2.1) (fun j hj => ?_)
            rw [g2] at hj
            rw [sN.2.2.1 j, cT, a3, vm 1 (by decide), b3]
            refine f_20R (fun i hi => ?_) j (by omega)
            have := rN.2.1 i (by omega)
            rw [show 600 * 0 + i = i by omega] at this
            rw [V0e 1 (by decide)]
            exact this
      · refine im (fun k hk => ?_)
        rcases ψ with ⟨-, b2, b3⟩ | ⟨-, b2, b3, b4, b5, b6⟩
        · exact vm_mk MM M3 (fun K _ => by rw [b3]) (fun j _ => by rw [b3]) (fun j _ => by rw [b3])
        · refine vm_mk MM M3 (fun K hK => ?_) (fun j _ => by rw [b3, f_20o (by omega)]) (fun j _ => by rw [b6 6 (by decide) (by decide)])
          rcases hK with rfl | rfl | rfl | rfl
          · exact b5 _ (by omega)
          · rw [b6 3 (by decide) (by decide)]
          · rw [b6 4 (by decide) (by decide)]
          · rw [b6 5 (by decide) (by decide)]
set_option maxRecDepth 100000 in
set_option maxHeartbeats 1000000 in
theorem case_1 : d_hand c_sp c_CC c_PT 0 c_m0 c_lcuts c_h1 := fun ρ K KA lv h σ α Q hC ht hw hT go => by
  obtain ⟨⟨e0, r0⟩, ⟨e1, r1⟩, ⟨e2, r2⟩, x, e3, qx, x0, x5, xl⟩ := lc_in hw
  have n1 := hT 1 (by decide)
  have n2 := hT 2 (by decide)
  have n7 := hT 7 (by decide)
  have n10 := hT 10 (by decide)
  have n12 := hT 12 (by decide)
  have n13 := hT 13 (by decide)
  have n14 := hT 14 (by decide)
  have n15 := hT 15 (by decide)
  have m16 : α 1 = 16 := n2.1.2.2.2.2.2.1 _ r1
  have h16 := n10.1
  have um := n10.2.1
  obtain ⟨rN, rI⟩ := n12.2.2 (α 2) r2
  have fN := nw_ob ht h16
  have fin : ∀ (ρ' : Nat → Nat) (h' : MH), FQ ρ ρ' c_m0.2.1 h h' → TH c_sp ρ' h' → c_PT 1 ρ' h' → c_PT 2 ρ' h' → c_PT 7 ρ' h' → c_PT 10 ρ' h' → c_PT 12 ρ' h' → c_PT 13 ρ' h' → c_PT 14 ρ' h' → c_PT 15 ρ' h' → HJ 0 2036 lv [] h' Q := fun ρ' h' f t a1 a2 a7 a10 a12 a13 a14 a15 => go c_hb hb_mem lv h' ρ' σ α f t (lc_out hw ht f) (by show 0 ≤ -3 * σ 3 + 0 + 2999; omega) (by show -3 * σ 3 + 0 + 2999 < -3 * σ 3 + 0 + 3000; omega) (t_7 a1 a2 a7 a10 a12 a13 a14 a15)
  show HJ 0 259 lv [] h Q
  refine hI_al (k := 1) rfl e1 rfl ?_
  refine hL_arg (n := 1) rfl rfl rfl rfl rfl (by decide) (by decide) (by decide) e0 e3 ht r0 x0 (by first | exact xl | (rw [s2]; exact xl)) ?_
  generalize hk1 : h_i h (α 0) (x.toInt + 1).toNat = xk1
  refine hM_iv (MX.start (W := []) ht r1) (by decide) rfl rfl (by decide) (as := [.int xk1]) (r := []) rfl rfl (by decide +kernel) rfl (by decide +kernel) rfl rfl rfl rfl rfl ?_
  rw [m16]
  refine c_end9 (n := xk1.toInt) (MX.start (W := [(7, 2)]) ht fN) (by decide +kernel) h16 rfl (by decide +kernel) rfl (fun z h2 F2 M2 φ => ?_)
  show HJ 0 268 lv [.int z] h2 Q
  · skip
    obtain ⟨ρ2, e9⟩ : ∃ ρ2, ρ2 = ρ := ⟨_, rfl⟩
    have t2 := M2.1.1
    have f : FQ ρ ρ2 [(7, 2)] h h2 := by rw [e9]; exact M2.1.2.2.fq
    rw [← e9] at t2
    obtain ⟨s1, s2, s3⟩ := sc_fr ht f r0 (by decide +kernel)
    have r2' : ρ2 (α 2) = 49 := (f.2.1 _ (by rw [r2]; decide)).trans r2
    have h16' : ρ2 16 = 6 := (f.2.1 16 (by rw [h16]; decide)).trans h16
    have um2 : t_um ρ2 := fun m m' e e' => um m m' (fq_m f ht (D := [(49, 1002)]) (by decide +kernel) (by decide) (List.mem_singleton.mpr rfl) e).1 (fq_m f ht (D := [(49, 1002)]) (by decide +kernel) (by decide) (List.mem_singleton.mpr rfl) e').1
    have fN2 : ρ2 (h_r h 16 0) = 7 := (f.2.1 _ (by rw [fN]; decide)).trans fN
    refine hI_pop rfl rfl rfl ?_
    refine hI_al (k := 2) rfl e2 rfl ?_
    refine hL_arg (n := 1) rfl rfl rfl rfl rfl (by decide) (by decide) (by decide) e0 e3 t2 s1 x0 (by first | exact xl | (rw [s2]; exact xl)) ?_
    rw [s3, hk1]
    refine hM_iv (MX.start (W := []) t2 r2') (by decide) rfl rfl (by decide) (as := [.int xk1]) (r := []) rfl rfl (by decide +kernel) rfl (by decide +kernel) rfl rfl rfl rfl rfl ?_
    have v2 := vm_fr ht f (by decide +kernel) r2
    have l16 := (ht.2 16 (by rw [h16]; decide)).1
    have eN2 : h_r h2 16 0 = h_r h 16 0 := (fq_f f (D := [(6, 0)]) (by decide +kernel) (List.mem_singleton.mpr rfl) (by decide) h16 l16).2
    have eI2 := im_eq ht f h16 (D := [(6, 1), (8, 1001), (8, 1002)]) (by decide +kernel) (by decide) (by decide) (by decide)
    have cF : ∀ K, q_fd h2 (h_r h 16 0) K = F2 K := fun K => M2.2.1 K
    have cT : ∀ j, q_tp h2 (h_r h 16 0) j = q_tp h (h_r h 16 0) j := fun j => by
      unfold q_tp
      rw [(M2.2.2 0 (by decide +kernel)).1]
      exact ((M2.2.2 0 (by decide +kernel)).2 j).1
    have MM := MX.start (W := [(49, 0), (51, 1001)]) t2 r2'
    obtain ⟨VV, hV⟩ : ∃ VV : Nat → Nat → Int, VV = fun K j => (h_i h2 (h_r h2 (α 2) K) j).toInt := ⟨_, rfl⟩
    rw [← hV] at MM
    have V0e : ∀ K, (K = 1 ∨ K = 2 ∨ K = 3 ∨ K = 4 ∨ K = 5 ∨ K = 6) → ∀ j, VV K j = q_vm h (α 2) K j := fun K hK j => by rw [hV]; exact congrFun (v2 K hK) j
    have F02 : (h_i h (h_r h 16 0) 2).toInt = q_fd h (h_r h 16 0) 2 := rfl
    have u2 : VV 2 0 = q_fd h (h_r h 16 0) 2 := (V0e 2 (by decide) 0).trans rN.1.1.symm
    refine c_mend (n := xk1.toInt) MM (by decide +kernel) rfl (fun y h3 F3 V3 M3 ψ => ?_)
    show HJ 0 278 lv [.int y] h3 Q
    · have qy : y.toInt = z.toInt := by
        rcases φ with ⟨a1, a2, -⟩ | ⟨a1, a2, a3, -⟩ <;> rcases ψ with ⟨b1, b2, -⟩ | ⟨b1, b2, b3, -⟩ <;> omega
      refine hI_pop rfl rfl rfl ?_
      refine hI_go (pc' := 2036) rfl (by decide) ?_
      have f3 := M3.1.2.2.fq
      have t3 := M3.1.1
      have eN3 : h_r h3 16 0 = h_r h 16 0 := (M3.gP h16' (by decide) (by decide +kernel)).trans eN2
      have eI3 := im_eq t2 f3 h16' (D := [(6, 1), (8, 1001), (8, 1002)]) (by decide +kernel) (by decide) (by decide) (by decide)
      have sN := td_frN t2 f3 (by decide +kernel) fN2
      have vK : ∀ K, K < 6 → q_fd h3 (h_r h 16 0) K = q_fd h2 (h_r h 16 0) K := fun K hK => congrArg Int32.toInt (sN.1 K hK)
      have vm : ∀ K, (K = 1 ∨ K = 2 ∨ K = 3 ∨ K = 4 ∨ K = 5 ∨ K = 6) → ∀ j, q_vm h3 (α 2) K j = V3 K j := fun K hK j => by
        rcases hK with rfl | rfl | rfl | rfl | rfl | rfl <;> exact M3.qv (by decide +kernel) j
      have im : (∀ k, k < 3 → vm_eq h2 (α 2) (k + 1) h3 (k + 1)) → ∀ k : Nat, k < 3 → r_im h3 k ≠ 0 → td_rel h3 (r_im h3 k) (α 2) (k + 1) := fun w k hk h0 => by
        rw [eI3, eI2] at h0 ⊢
        have oI := im_ob ht h16 k hk h0
        exact td_move (td_bdI ht oI) (pc_same (td_sameT (td_frI ht f (by decide +kernel) oI) (td_frI t2 f3 (by decide +kernel) ((f.2.1 _ (by rw [oI]; decide)).trans oI)))) (vm_eqT (vm_sameE v2) (w k hk)) (rI k hk h0)
      have ac := acs_T (acs_fr ht f (by decide +kernel) (by decide +kernel) fN) (acs_fr t2 f3 (by decide +kernel) (by decide +kernel) fN2)
      refine fin ρ2 h3 ((f.mono (by decide +kernel)).trans (f3.mono (by decide +kernel))) t3 (c_PTx 1 _ _ _ h2 h3 t2 f3 (by decide +kernel) (c_PTx 1 _ _ _ h h2 ht f (by decide +kernel) n1)) (c_PTx 2 _ _ _ h2 h3 t2 f3 (by decide +kernel) (c_PTx 2 _ _ _ h h2 ht f (by decide +kernel) n2)) (c_PTx 7 _ _ _ h2 h3 t2 f3 (by decide +kernel) (c_PTx 7 _ _ _ h h2 ht f (by decide +kernel) n7)) (c_PTx 10 _ _ _ h2 h3 t2 f3 (by decide +kernel) (c_PTx 10 _ _ _ h h2 ht f (by decide +kernel) n10)) (rt_mk ((f3.2.1 16 (by rw [h16']; decide)).trans h16') um2 r2' ?_ ?_) (c_PTx 13 _ _ _ h2 h3 t2 f3 (by decide +kernel) (c_PTx 13 _ _ _ h h2 ht f (by decide +kernel) n13)) (c_PTx 14 _ _ _ h2 h3 t2 f3 (by decide +kernel) (c_PTx 14 _ _ _ h h2 ht f (by decide +kernel) n14)) (c_PTx 15 _ _ _ h2 h3 t2 f3 (by decide +kernel) (c_PTx 15 _ _ _ h h2 ht f (by decide +kernel) n15))
      · rw [eN3]
        rcases φ with ⟨-, a2, a3⟩ | ⟨-, a1, a2, a3, a5⟩
        · rcases ψ with ⟨-, b2, b3⟩ | ⟨-, b1, b2, -⟩
          · have e : ∀ K, (K = 1 ∨ K = 2 ∨ K = 3 ∨ K = 4 ∨ K = 5 ∨ K = 6) → ∀ j, q_vm h3 (α 2) K j = q_vm h (α 2) K j := fun K hK j => by rw [vm K hK, b3, V0e K hK]
            have g : ∀ K, K < 6 → q_fd h3 (h_r h 16 0) K = q_fd h (h_r h 16 0) K := fun K hK => by rw [vK K hK, cF, a3]; rfl
            refine td_new ac (fun j _ => e 6 (by decide) j) (g 5 (by decide)) (e 5 (by decide) 0) (td_bdN ht fN) rN (by rw [g 2 (by decide), e 2 (by decide)]; exact rN.1.1) (by rw [g 3 (by decide), e 3 (by decide)]; exact rN.1.2.1) (by rw [g 4 (by decide), e 4 (by decide)]; exact rN.1.2.2.1) (fun j hj => ?_)
            rw [g 2 (by decide)] at hj
            rw [sN.2.2.1 j, cT, e 1 (by decide)]
            have := rN.2.1 j hj
            rw [show 600 * 0 + j = j by omega] at this
            exact this
          · omega
        · rcases ψ with ⟨-, b2, -⟩ | ⟨-, b1, b2, b4, b5, b6⟩
          · omega
          · have e : ∀ K, (K = 1 ∨ K = 3 ∨ K = 4 ∨ K = 5 ∨ K = 6) → ∀ j, q_vm h3 (α 2) K j = q_vm h (α 2) K j := fun K hK j => by rw [vm K (by omega), b6 K (by omega), V0e K (by omega)]
            have g : ∀ K, K < 6 → K ≠ 2 → q_fd h3 (h_r h 16 0) K = q_fd h (h_r h 16 0) K := fun K hK h9 => by rw [vK K hK, cF, a5 K h9]; rfl
            have g2 : q_fd h3 (h_r h 16 0) 2 = xk1.toInt := by rw [vK 2 (by decide), cF]; exact a3
            refine td_new ac (fun j _ => e 6 (by decide) j) (g 5 (by decide) (by decide)) (e 5 (by decide) 0) (td_bdN ht fN) rN (by rw [g2, vm 2 (by decide), b4]) (by rw [g 3 (by decide) (by decide), e 3 (by decide)]; exact rN.1.2.1) (by rw [g 4 (by decide) (by decide), e 4 (by decide)]; exact rN.1.2.2.1) (fun j hj => ?_)
            rw [g2] at hj
            rw [sN.2.2.1 j, cT, e 1 (by decide)]
            have := rN.2.1 j (by omega)
            rw [show 600 * 0 + j = j by omega] at this
            exact this
      · refine im (fun k hk => ?_)
        rcases ψ with ⟨-, b2, b3⟩ | ⟨-, b1, b2, b4, b5, b6⟩
        · exact vm_mk MM M3 (fun K _ => by rw [b3]) (fun j _ => by rw [b3]) (fun j _ => by rw [b3])
        · refine vm_mk MM M3 (fun K hK => ?_) (fun j _ => by rw [b6 1 (by decide)]) (fun j _ => by rw [b6 6 (by decide)])
          rcases hK with rfl | rfl | rfl | rfl
          · exact b5 _ (by omega)
          · rw [b6 3 (by decide)]
          · rw [b6 4 (by decide)]
          · rw [b6 5 (by decide)]
set_option maxRecDepth 100000 in
set_option maxHeartbeats 1000000 in
theorem case_2 : d_hand c_sp c_CC c_PT 0 c_m0 c_lcuts c_h2 := fun ρ K KA lv h σ α Q hC ht hw hT go => by
  obtain ⟨⟨e0, r0⟩, ⟨e1, r1⟩, ⟨e2, r2⟩, x, e3, qx, x0, x5, xl⟩ := lc_in hw
  have n1 := hT 1 (by decide)
  have n2 := hT 2 (by decide)
  have n7 := hT 7 (by decide)
  have n10 := hT 10 (by decide)
  have n12 := hT 12 (by decide)
  have n13 := hT 13 (by decide)
  have n14 := hT 14 (by decide)
  have n15 := hT 15 (by decide)
  have m16 : α 1 = 16 := n2.1.2.2.2.2.2.1 _ r1
  have h16 := n10.1
  have um := n10.2.1
  obtain ⟨rN, rI⟩ := n12.2.2 (α 2) r2
  have fN := nw_ob ht h16
  have fin : ∀ (ρ' : Nat → Nat) (h' : MH), FQ ρ ρ' c_m0.2.1 h h' → TH c_sp ρ' h' → c_PT 1 ρ' h' → c_PT 2 ρ' h' → c_PT 7 ρ' h' → c_PT 10 ρ' h' → c_PT 12 ρ' h' → c_PT 13 ρ' h' → c_PT 14 ρ' h' → c_PT 15 ρ' h' → HJ 0 2036 lv [] h' Q := fun ρ' h' f t a1 a2 a7 a10 a12 a13 a14 a15 => go c_hb hb_mem lv h' ρ' σ α f t (lc_out hw ht f) (by show 0 ≤ -3 * σ 3 + 0 + 2999; omega) (by show -3 * σ 3 + 0 + 2999 < -3 * σ 3 + 0 + 3000; omega) (t_7 a1 a2 a7 a10 a12 a13 a14 a15)
  show HJ 0 282 lv [] h Q
  refine hI_al (k := 1) rfl e1 rfl ?_
  refine hL_arg (n := 1) rfl rfl rfl rfl rfl (by decide) (by decide) (by decide) e0 e3 ht r0 x0 (by first | exact xl | (rw [s2]; exact xl)) ?_
  generalize hk1 : h_i h (α 0) (x.toInt + 1).toNat = xk1
  refine hM_iv (MX.start (W := []) ht r1) (by decide) rfl rfl (by decide) (as := [.int xk1]) (r := []) rfl rfl (by decide +kernel) rfl (by decide +kernel) rfl rfl rfl rfl rfl ?_
  rw [m16]
  have bN := td_r4N ht fN
  refine c_ctext (a := xk1.toInt) hC ht h16 n1 n2 n13 n14 n15.2.1 rfl (fun ρ2 h2 z f t2 m1 m2 φ β => ?_)
  have m15 : c_PT 15 ρ2 h2 := tx_15 ht n15 f φ β
  show HJ 0 291 lv [.int z] h2 Q
  · skip
    obtain ⟨s1, s2, s3⟩ := sc_fr ht f r0 (by decide +kernel)
    have r2' : ρ2 (α 2) = 49 := (f.2.1 _ (by rw [r2]; decide)).trans r2
    have h16' : ρ2 16 = 6 := (f.2.1 16 (by rw [h16]; decide)).trans h16
    have um2 : t_um ρ2 := fun m m' e e' => um m m' (fq_m f ht (D := [(49, 1002)]) (by decide +kernel) (by decide) (List.mem_singleton.mpr rfl) e).1 (fq_m f ht (D := [(49, 1002)]) (by decide +kernel) (by decide) (List.mem_singleton.mpr rfl) e').1
    have fN2 : ρ2 (h_r h 16 0) = 7 := (f.2.1 _ (by rw [fN]; decide)).trans fN
    refine hI_pop rfl rfl rfl ?_
    refine hI_al (k := 2) rfl e2 rfl ?_
    refine hL_arg (n := 1) rfl rfl rfl rfl rfl (by decide) (by decide) (by decide) e0 e3 t2 s1 x0 (by first | exact xl | (rw [s2]; exact xl)) ?_
    rw [s3, hk1]
    refine hM_iv (MX.start (W := []) t2 r2') (by decide) rfl rfl (by decide) (as := [.int xk1]) (r := []) rfl rfl (by decide +kernel) rfl (by decide +kernel) rfl rfl rfl rfl rfl ?_
    have v2 := vm_fr ht f (by decide +kernel) r2
    have l16 := (ht.2 16 (by rw [h16]; decide)).1
    have eN2 : h_r h2 16 0 = h_r h 16 0 := (fq_f f (D := [(6, 0)]) (by decide +kernel) (List.mem_singleton.mpr rfl) (by decide) h16 l16).2
    have eI2 := im_eq ht f h16 (D := [(6, 1), (8, 1001), (8, 1002)]) (by decide +kernel) (by decide) (by decide) (by decide)
    have MM := MX.start (W := w_mtx) t2 r2'
    obtain ⟨VV, hV⟩ : ∃ VV : Nat → Nat → Int, VV = fun K j => (h_i h2 (h_r h2 (α 2) K) j).toInt := ⟨_, rfl⟩
    rw [← hV] at MM
    have V0e : ∀ K, (K = 1 ∨ K = 2 ∨ K = 3 ∨ K = 4 ∨ K = 5 ∨ K = 6) → ∀ j, VV K j = q_vm h (α 2) K j := fun K hK j => by rw [hV]; exact congrFun (v2 K hK) j
    have u2 : VV 2 0 = q_fd h (h_r h 16 0) 2 := (V0e 2 (by decide) 0).trans rN.1.1.symm
    have u5 : VV 5 0 = q_fd h (h_r h 16 0) 5 := (V0e 5 (by decide) 0).trans rN.1.2.2.2.symm
    have hZ : rd_tx (VV 1) (VV 2 0).toNat = rd_tx (q_tp h (h_r h 16 0)) (q_fd h (h_r h 16 0) 2).toNat := by
      rw [u2]
      refine rd_txX (fun j hj => ?_)
      have := rN.2.1 j (by omega)
      rw [show 600 * 0 + j = j by omega] at this
      rw [V0e 1 (by decide)]
      exact this.symm
    refine c_mtext (a := xk1.toInt) MM (by decide +kernel) rfl (fun y h3 F3 V3 M3 ψ => ?_)
    rw [hZ, u5] at ψ
    obtain ⟨Z, eZ⟩ : ∃ Z, Z = rd_tx (q_tp h (h_r h 16 0)) (q_fd h (h_r h 16 0) 2).toNat := ⟨_, rfl⟩
    have ok := ls_okT (T := q_tp h (h_r h 16 0)) (n := (q_fd h (h_r h 16 0) 2).toNat)
    rw [← eZ] at φ ψ ok
    show HJ 0 301 lv [.int y] h3 Q
    · have qy : y.toInt = z.toInt := by
        obtain ⟨-, φ⟩ := φ
        rcases φ with ⟨a1, a2, -⟩ | ⟨a2, ⟨a1, a3, -⟩ | ⟨a3, k, a1, a4, -⟩⟩
        · rcases ψ with ⟨b1, -⟩ | ⟨b2, -⟩
          · omega
          · unfold tx_not at a2
            omega
        · unfold tx_can at a2
          rcases ψ with ⟨b1, b2, -⟩ | ⟨b2, ⟨b1, -⟩ | ⟨b3, -⟩⟩
          · omega
          · omega
          · exact absurd b3 a3
        · unfold tx_can at a2
          rcases ψ with ⟨b1, b2, -⟩ | ⟨b2, ⟨b1, b3, -⟩ | ⟨b3, k2, b1, b4, -⟩⟩
          · omega
          · exact absurd a3 b3
          · rw [a1, b1, a4, b4]
      refine hI_pop rfl rfl rfl ?_
      refine hI_go (pc' := 2036) rfl (by decide) ?_
      have f3 := M3.1.2.2.fq
      have t3 := M3.1.1
      have eN3 : h_r h3 16 0 = h_r h 16 0 := (M3.gP h16' (by decide) (by decide +kernel)).trans eN2
      have eI3 := im_eq t2 f3 h16' (D := [(6, 1), (8, 1001), (8, 1002)]) (by decide +kernel) (by decide) (by decide) (by decide)
      have sN := td_frN t2 f3 (by decide +kernel) fN2
      have vK : ∀ K, K < 6 → q_fd h3 (h_r h 16 0) K = q_fd h2 (h_r h 16 0) K := fun K hK => congrArg Int32.toInt (sN.1 K hK)
      have vm : ∀ K, (K = 1 ∨ K = 2 ∨ K = 3 ∨ K = 4 ∨ K = 5 ∨ K = 6) → ∀ j, q_vm h3 (α 2) K j = V3 K j := fun K hK j => by
        rcases hK with rfl | rfl | rfl | rfl | rfl | rfl <;> exact M3.qv (by decide +kernel) j
      have im : (∀ k, k < 3 → vm_eq h2 (α 2) (k + 1) h3 (k + 1)) → ∀ k : Nat, k < 3 → r_im h3 k ≠ 0 → td_rel h3 (r_im h3 k) (α 2) (k + 1) := fun w k hk h0 => by
        rw [eI3, eI2] at h0 ⊢
        have oI := im_ob ht h16 k hk h0
        exact td_move (td_bdI ht oI) (pc_same (td_sameT (td_frI ht f (by decide +kernel) oI) (td_frI t2 f3 (by decide +kernel) ((f.2.1 _ (by rw [oI]; decide)).trans oI)))) (vm_eqT (vm_sameE v2) (w k hk)) (rI k hk h0)
      have ac3 := acs_fr t2 f3 (by decide +kernel) (by decide +kernel) fN2
      have o0 : ∀ {f : Nat → Int} {w : Int} {j : Nat}, j ≠ 0 → m_u f 0 w j = f j := fun {f w j} h => m_uN _ _ _ _ h
      -- the slots of images
      have hi : (∀ K, (K = 2 ∨ K = 3 ∨ K = 4 ∨ K = 5) → ∀ j, j ≠ 0 → V3 K j = VV K j) → V3 1 = VV 1 → (∀ j, 644 ≤ j → V3 6 j = VV 6 j) → ∀ k, k < 3 → vm_eq h2 (α 2) (k + 1) h3 (k + 1) := fun w1 w2 w3 k hk => vm_mk MM M3 (fun K hK => w1 K hK _ (by omega)) (fun j _ => by rw [w2]) (fun j _ => w3 _ (by omega))
      have go : td_rel h3 (h_r h 16 0) (α 2) 0 → (∀ k, k < 3 → vm_eq h2 (α 2) (k + 1) h3 (k + 1)) → p_rw (V3 6) → HJ 0 2036 lv [] h3 Q := fun g1 g2 g3 => by
        refine fin ρ2 h3 ((f.mono (by decide +kernel)).trans (f3.mono (by decide +kernel))) t3 (c_PTx 1 _ _ _ h2 h3 t2 f3 (by decide +kernel) m1) (c_PTx 2 _ _ _ h2 h3 t2 f3 (by decide +kernel) m2) (hv_7 M3 um2 g3) (c_PTx 10 _ _ _ h2 h3 t2 f3 (by decide +kernel) (c_PTx 10 _ _ _ h h2 ht f (by decide +kernel) n10)) (rt_mk ((f3.2.1 16 (by rw [h16']; decide)).trans h16') um2 r2' ?_ ?_) (c_PTx 13 _ _ _ h2 h3 t2 f3 (by decide +kernel) (c_PTx 13 _ _ _ h h2 ht f (by decide +kernel) n13)) (c_PTx 14 _ _ _ h2 h3 t2 f3 (by decide +kernel) (c_PTx 14 _ _ _ h h2 ht f (by decide +kernel) n14)) (c_PTx 15 _ _ _ h2 h3 t2 f3 (by decide +kernel) m15)
        · rw [eN3]
          exact g1
        · exact im g2
      have rw7 : p_rw (VV 6) := hv_7i MM (c_PTx 7 _ _ _ h h2 ht f (by decide +kernel) n7)
      obtain ⟨⟨-, a0⟩, φ⟩ := φ
      -- nothing but the tape, the fault and its place
      have few : ∀ (w3 w4 : Int), V3 2 = m_u (VV 2) 0 0 → V3 3 = m_u (VV 3) 0 w3 → V3 4 = m_u (VV 4) 0 w4 → (∀ K, K ≠ 2 → K ≠ 3 → K ≠ 4 → K ≠ 16 → V3 K = VV K) → q_fd h2 (h_r h 16 0) 3 = w3 → q_fd h2 (h_r h 16 0) 4 = w4 → q_fd h2 (h_r h 16 0) 5 = q_fd h (h_r h 16 0) 5 → tx_acs h h2 (h_r h 16 0) (fun _ => True) → HJ 0 2036 lv [] h3 Q := fun w3 w4 e2 e3 e4 eo c3 c4 c5 ca => by
        have e : ∀ K, (K = 1 ∨ K = 5 ∨ K = 6) → ∀ j, q_vm h3 (α 2) K j = q_vm h (α 2) K j := fun K hK j => by rw [vm K (by omega), eo K (by omega) (by omega) (by omega) (by omega), V0e K (by omega)]
        refine go (td_new (acs_T ca ac3) (fun j _ => e 6 (by decide) j) (by rw [vK 5 (by decide)]; exact c5) (e 5 (by decide) 0) (td_bdN ht fN) rN (by rw [vK 2 (by decide), a0, vm 2 (by decide), e2, m_uE]) (by rw [vK 3 (by decide), c3, vm 3 (by decide), e3, m_uE]) (by rw [vK 4 (by decide), c4, vm 4 (by decide), e4, m_uE]) (fun j hj => ?_)) (hi (fun K hK j hj => ?_) (eo 1 (by decide) (by decide) (by decide) (by decide)) (fun j _ => by rw [eo 6 (by decide) (by decide) (by decide) (by decide)])) ?_
        · rw [vK 2 (by decide), a0] at hj
          omega
        · rcases hK with rfl | rfl | rfl | rfl
          · rw [e2, o0 hj]
          · rw [e3, o0 hj]
          · rw [e4, o0 hj]
          · rw [eo 5 (by decide) (by decide) (by decide) (by decide)]
        · rw [eo 6 (by decide) (by decide) (by decide) (by decide)]
          exact rw7
      rcases φ with ⟨a1, a2, a3, a4, a5, a6⟩ | ⟨a2, ⟨a1, a3, a4, a5, a6, a7⟩ | ⟨z0, k, a1, a4, k3, c3, c4, c5, c6, c7⟩⟩
      · rcases ψ with ⟨b1, b2, ⟨b3, b4, b5⟩, b6⟩ | ⟨b2, -⟩
        · exact few 0 (-1) b3 b4 b5 (fun K k2 k3 k4 _ => b6 K k2 k3 k4) a3 a4 a5 a6
        · unfold tx_not at a2
          exfalso
          omega
      · unfold tx_can at a2
        rcases ψ with ⟨b1, b2, -⟩ | ⟨b2, ⟨b1, b3, ⟨b4, b5, b6⟩, b7⟩ | ⟨b3, -⟩⟩
        · exfalso
          omega
        · exact few _ _ b4 b5 b6 b7 a4 a5 a6 a7
        · exact absurd b3 a3
      · unfold tx_can at a2
        rcases ψ with ⟨b1, b2, -⟩ | ⟨b2, ⟨b1, b3, -⟩ | ⟨b3, k2, b1, b4, k23, ⟨d2, d3, d4, d5⟩, ⟨d6, d7, d8⟩, d9⟩⟩
        · exfalso
          omega
        · exact absurd z0 b3
        · have ek : k2 = k := by
            have := b4.trans a4.symm
            omega
          subst ek
          have g40 := (ok.1 z0).2
          have v6 : ∀ j, q_vm h3 (α 2) 6 j = V3 6 j := fun j => vm 6 (by decide) j
          have e5 : q_fd h3 (h_r h 16 0) 5 = (if xk1.toInt = -1 then q_fd h (h_r h 16 0) 5 + 1 else q_fd h (h_r h 16 0) 5) := by rw [vK 5 (by decide)]; exact c5
          refine go ⟨⟨by rw [vK 2 (by decide), a0, vm 2 (by decide), d2, m_uE], by rw [vK 3 (by decide), c3, vm 3 (by decide), d3, m_uE], by rw [vK 4 (by decide), c4, vm 4 (by decide), d4, m_uE], by rw [e5, vm 5 (by decide), d5, m_uE]⟩, fun j hj => ?_, fun r hr => ?_⟩ (hi (fun K hK j hj => ?_) (d9 1 (by decide) (by decide) (by decide) (by decide) (by decide) (by decide)) (fun j hj => d8 j (by omega))) (fun q hq => ?_)
          · rw [vK 2 (by decide), a0] at hj
            omega
          · rw [e5] at hr
            by_cases er : r = k2
            · subst er
              obtain ⟨x1, x2⟩ := sN.2.2.2 r (by omega)
              have aq : ar_q h3 (q_ac h3 (h_r h 16 0) r) Z := by
                rw [x1]
                exact ar_same x2 c6
              refine ⟨?_, fun j hj => ?_⟩
              · rw [v6, show 644 * 0 + 161 * r = 161 * r by omega, d6]
                exact aq.1
              · rw [aq.1] at hj
                obtain ⟨y1, y2⟩ := aq.2 j (by omega)
                refine ⟨?_, fun i hi => ?_⟩
                · have := d7 j (by omega) 0 (by decide)
                  rw [v6, show 644 * 0 + 161 * r + 1 + 4 * j = 161 * r + 1 + 4 * j + 0 by omega, this]
                  exact y1
                · have := d7 j (by omega) (1 + i) (by omega)
                  rw [v6, show 644 * 0 + 161 * r + 2 + 4 * j + i = 161 * r + 1 + 4 * j + (1 + i) by omega, this, show 4 * j + 1 + (1 + i) = 4 * j + 2 + i by omega]
                  exact y2 i hi
            · have ro : (r : Int) < q_fd h (h_r h 16 0) 5 := by
                by_cases z : xk1.toInt = -1
                · rw [if_pos z] at hr a4
                  omega
                · rw [if_neg z] at hr
                  exact hr
              have r4 : r < 4 := by omega
              obtain ⟨x1, x2⟩ := c7 r r4 er
              obtain ⟨x3, x4⟩ := sN.2.2.2 r r4
              rw [x1] at x3 x4
              rw [x3]
              have old := rN.2.2 r ro
              have b40 := (td_bdN ht fN).2.2 r r4
              have xx := ac_sameT x2 x4
              have e9 : q_fd h3 (q_ac h (h_r h 16 0) r) 2 = q_fd h (q_ac h (h_r h 16 0) r) 2 := congrArg Int32.toInt xx.1
              have same : ∀ j, j < 161 → q_vm h3 (α 2) 6 (644 * 0 + 161 * r + j) = q_vm h (α 2) 6 (644 * 0 + 161 * r + j) := fun j hj => by rw [v6, d8 _ (by omega), V0e 6 (by decide)]
              refine ⟨?_, fun j hj => ?_⟩
              · have := same 0 (by decide)
                rw [e9]
                exact old.1.trans this.symm
              · rw [e9] at hj
                obtain ⟨y1, y2⟩ := old.2 j hj
                refine ⟨?_, fun i hi => ?_⟩
                · have := same (1 + 4 * j) (by omega)
                  simp only [← Nat.add_assoc] at this
                  rw [(xx.2.2 j).1, this]
                  exact y1
                · have := same (2 + 4 * j + i) (by omega)
                  simp only [← Nat.add_assoc] at this
                  rw [(xx.2.2 _).2, this]
                  exact y2 i hi
          · rcases hK with rfl | rfl | rfl | rfl
            · rw [d2, o0 hj]
            · rw [d3, o0 hj]
            · rw [d4, o0 hj]
            · rw [d5, o0 hj]
          · by_cases eq : q = k2
            · subst eq
              show 0 ≤ V3 6 (161 * q) ∧ V3 6 (161 * q) ≤ 40
              rw [d6]
              omega
            · show 0 ≤ V3 6 (161 * q) ∧ V3 6 (161 * q) ≤ 40
              rw [d8 _ (by omega)]
              exact rw7 q hq
set_option maxRecDepth 100000 in
set_option maxHeartbeats 1000000 in
theorem case_36 : d_hand c_sp c_CC c_PT 0 c_m0 c_lcuts c_h36 := fun ρ K KA lv h σ α Q hC ht hw hT go => by
  obtain ⟨⟨e0, r0⟩, ⟨e1, r1⟩, ⟨e2, r2⟩, x, e3, qx, x0, x5, xl⟩ := lc_in hw
  have n1 := hT 1 (by decide)
  have n2 := hT 2 (by decide)
  have n7 := hT 7 (by decide)
  have n10 := hT 10 (by decide)
  have n12 := hT 12 (by decide)
  have n13 := hT 13 (by decide)
  have n14 := hT 14 (by decide)
  have n15 := hT 15 (by decide)
  have m16 : α 1 = 16 := n2.1.2.2.2.2.2.1 _ r1
  have h16 := n10.1
  have um := n10.2.1
  obtain ⟨rN, rI⟩ := n12.2.2 (α 2) r2
  have fN := nw_ob ht h16
  have fin : ∀ (ρ' : Nat → Nat) (h' : MH), FQ ρ ρ' c_m0.2.1 h h' → TH c_sp ρ' h' → c_PT 1 ρ' h' → c_PT 2 ρ' h' → c_PT 7 ρ' h' → c_PT 10 ρ' h' → c_PT 12 ρ' h' → c_PT 13 ρ' h' → c_PT 14 ρ' h' → c_PT 15 ρ' h' → HJ 0 2036 lv [] h' Q := fun ρ' h' f t a1 a2 a7 a10 a12 a13 a14 a15 => go c_hb hb_mem lv h' ρ' σ α f t (lc_out hw ht f) (by show 0 ≤ -3 * σ 3 + 0 + 2999; omega) (by show -3 * σ 3 + 0 + 2999 < -3 * σ 3 + 0 + 3000; omega) (t_7 a1 a2 a7 a10 a12 a13 a14 a15)
  show HJ 0 2013 lv [] h Q
  refine hI_al (k := 1) rfl e1 rfl ?_
  refine hL_arg (n := 1) rfl rfl rfl rfl rfl (by decide) (by decide) (by decide) e0 e3 ht r0 x0 (by first | exact xl | (rw [s2]; exact xl)) ?_
  generalize hk1 : h_i h (α 0) (x.toInt + 1).toNat = xk1
  refine hM_iv (MX.start (W := []) ht r1) (by decide) rfl rfl (by decide) (as := [.int xk1]) (r := []) rfl rfl (by decide +kernel) rfl (by decide +kernel) rfl rfl rfl rfl rfl ?_
  rw [m16]
  have snd : ∀ (ρ2 : Nat → Nat) (h2 : MH) (z : Int32), FQ ρ ρ2 w_ag7 h h2 → TH c_sp ρ2 h2 → c_PT 1 ρ2 h2 → c_PT 2 ρ2 h2 → c_PT 15 ρ2 h2 → (z.toInt = 0 ∧ ((xk1.toInt < 0 ∨ 3 ≤ xk1.toInt) ∨ (0 ≤ xk1.toInt ∧ xk1.toInt < 3 ∧ r_im h xk1.toInt.toNat = 0)) ∧ pc_eq h (h_r h 16 0) h2 (h_r h 16 0)) ∨ (z.toInt = 1 ∧ 0 ≤ xk1.toInt ∧ xk1.toInt < 3 ∧ r_im h xk1.toInt.toNat ≠ 0 ∧ pc_eq h (r_im h xk1.toInt.toNat) h2 (h_r h 16 0)) → HJ 0 2022 lv [.int z] h2 Q := fun ρ2 h2 z f t2 m1 m2 m15 hz => by
    obtain ⟨s1, s2, s3⟩ := sc_fr ht f r0 (by decide +kernel)
    have r2' : ρ2 (α 2) = 49 := (f.2.1 _ (by rw [r2]; decide)).trans r2
    have h16' : ρ2 16 = 6 := (f.2.1 16 (by rw [h16]; decide)).trans h16
    have um2 : t_um ρ2 := fun m m' e e' => um m m' (fq_m f ht (D := [(49, 1002)]) (by decide +kernel) (by decide) (List.mem_singleton.mpr rfl) e).1 (fq_m f ht (D := [(49, 1002)]) (by decide +kernel) (by decide) (List.mem_singleton.mpr rfl) e').1
    have fN2 : ρ2 (h_r h 16 0) = 7 := (f.2.1 _ (by rw [fN]; decide)).trans fN
    refine hI_pop rfl rfl rfl ?_
    refine hI_al (k := 2) rfl e2 rfl ?_
    refine hL_arg (n := 1) rfl rfl rfl rfl rfl (by decide) (by decide) (by decide) e0 e3 t2 s1 x0 (by first | exact xl | (rw [s2]; exact xl)) ?_
    rw [s3, hk1]
    refine hM_iv (MX.start (W := []) t2 r2') (by decide) rfl rfl (by decide) (as := [.int xk1]) (r := []) rfl rfl (by decide +kernel) rfl (by decide +kernel) rfl rfl rfl rfl rfl ?_
    have v2 := vm_fr ht f (by decide +kernel) r2
    have l16 := (ht.2 16 (by rw [h16]; decide)).1
    have eN2 : h_r h2 16 0 = h_r h 16 0 := (fq_f f (D := [(6, 0)]) (by decide +kernel) (List.mem_singleton.mpr rfl) (by decide) h16 l16).2
    have eI2 := im_eq ht f h16 (D := [(6, 1), (8, 1001), (8, 1002)]) (by decide +kernel) (by decide) (by decide) (by decide)
    have m10 : c_PT 10 ρ2 h2 := c_PTx 10 _ _ _ h h2 ht f (by decide +kernel) n10
    have m13 : c_PT 13 ρ2 h2 := c_PTx 13 _ _ _ h h2 ht f (by decide +kernel) n13
    have m14 : c_PT 14 ρ2 h2 := c_PTx 14 _ _ _ h h2 ht f (by decide +kernel) n14
    have M := MX.start (W := w_m2) t2 r2'
    obtain ⟨VV, hV⟩ : ∃ VV : Nat → Nat → Int, VV = fun K j => (h_i h2 (h_r h2 (α 2) K) j).toInt := ⟨_, rfl⟩
    rw [← hV] at M
    have k10 := hv_10i M m10
    have rw7 := hv_7i M (c_PTx 7 _ _ _ h h2 ht f (by decide +kernel) n7)
    have endd : ∀ (y : Int32) (h3 : MH) (F' : Nat → Int) (V' : Nat → Nat → Int) (G' : Nat → Nat → Int64) (a s : Nat), y.toInt = z.toInt → p_rw (V' 6) → MX 49 w_m2 ρ2 (α 2) (h_r h2 (α 2)) h2 h3 F' V' G' → td_bd h a → pc_eq h a h2 (h_r h 16 0) → td_rel h a (α 2) s → vm_eq h2 (α 2) s h3 0 → (∀ k, k < 3 → vm_eq h2 (α 2) (k + 1) h3 (k + 1)) → HJ 0 2032 lv [.int y] h3 Q := fun y h3 F' V' G' a s qy k7 M3 bd pc td vs vi => by
      refine hI_pop rfl rfl rfl ?_
      refine hI_go (pc' := 2036) rfl (by decide) ?_
      have f3 := M3.1.2.2.fq
      have t3 := M3.1.1
      have eN3 : h_r h3 16 0 = h_r h 16 0 := (M3.gP h16' (by decide) (by decide +kernel)).trans eN2
      have eI3 := im_eq t2 f3 h16' (D := [(6, 1), (8, 1001), (8, 1002)]) (by decide +kernel) (by decide) (by decide) (by decide)
      have sN := td_frN t2 f3 (by decide +kernel) fN2
      refine fin ρ2 h3 ((f.mono (by decide +kernel)).trans (f3.mono (by decide +kernel))) t3 (c_PTx 1 _ _ _ h2 h3 t2 f3 (by decide +kernel) m1) (c_PTx 2 _ _ _ h2 h3 t2 f3 (by decide +kernel) m2) (hv_7 M3 um2 k7) (c_PTx 10 _ _ _ h2 h3 t2 f3 (by decide +kernel) m10) (rt_mk h16' um2 r2' ?_ (fun k hk h0 => ?_)) (c_PTx 13 _ _ _ h2 h3 t2 f3 (by decide +kernel) m13) (c_PTx 14 _ _ _ h2 h3 t2 f3 (by decide +kernel) m14) (c_PTx 15 _ _ _ h2 h3 t2 f3 (by decide +kernel) m15)
      · rw [eN3]
        exact td_move bd (pc_eqT pc (pc_same sN)) (vm_eqT (vm_sameE v2) vs) td
      · rw [eI3, eI2] at h0 ⊢
        have oI := im_ob ht h16 k hk h0
        exact td_move (td_bdI ht oI) (pc_same (td_sameT (td_frI ht f (by decide +kernel) oI) (td_frI t2 f3 (by decide +kernel) ((f.2.1 _ (by rw [oI]; decide)).trans oI)))) (vm_eqT (vm_sameE v2) (vi k hk)) (rI k hk h0)
    refine c_magain M rfl rfl rfl (by decide +kernel) (c_ca (by decide +kernel)) (fun y h3 F' qy hb M3 => ?_) (fun y h3 F' V' G' qy c0 c2 hne v67 ψ M3 => ?_)
    · rcases hz with ⟨q, -, pc⟩ | ⟨q, c0, c3, hne, -⟩
      · exact endd y h3 F' _ _ (h_r h 16 0) 0 (by omega) rw7 M3 (td_bdN ht fN) pc rN (vm_mk M M3 (fun _ _ => rfl) (fun _ _ => rfl) (fun _ _ => rfl)) (fun k _ => vm_mk M M3 (fun _ _ => rfl) (fun _ _ => rfl) (fun _ _ => rfl))
      · rcases hb with hb | ⟨-, -, hb⟩
        · omega
        · exact absurd ((eI2 _).symm.trans ((k10 _ (by omega)).mpr hb)) hne
    · rcases hz with ⟨q, hb, -⟩ | ⟨q, -, c3, hn, pc⟩
      · rcases hb with hb | ⟨-, -, hb⟩
        · omega
        · exact absurd ((k10 _ (by omega)).mp ((eI2 _).trans hb)) hne
      · have ψ : cp_all (xk1.toInt + 1).toNat (0 : Int).toNat VV V' := ψ
        have e1 : (xk1.toInt + 1).toNat = xk1.toInt.toNat + 1 := by omega
        rw [e1, show (0 : Int).toNat = 0 from rfl] at ψ
        refine endd y h3 F' V' G' (r_im h xk1.toInt.toNat) (xk1.toInt.toNat + 1) (by omega) (p_rwC ψ.2.2.2.2.2.1 (by omega) rw7) M3 (td_bdI ht (im_ob ht h16 _ (by omega) hn)) pc (rI _ (by omega) hn) (vm_cpT M M3 ψ) (fun k hk => vm_cpO M M3 ψ (by omega))
  exact c_again7 hC ht h16 n1 n2 n15 n13.2.1 rfl rfl (fun z qz hb => snd ρ h z (FQ.refl _ _ _) ht n1 n2 n15 (Or.inl ⟨qz, hb, pc_same td_same0⟩)) (fun ρ2 h2 z qz c0 c3 hne f t2 m1 m2 m15 pc => snd ρ2 h2 z f t2 m1 m2 m15 (Or.inr ⟨qz, c0, c3, hne, pc⟩))
set_option maxRecDepth 100000 in
set_option maxHeartbeats 1000000 in
theorem case_35 : d_hand c_sp c_CC c_PT 0 c_m0 c_lcuts c_h35 := fun ρ K KA lv h σ α Q hC ht hw hT go => by
  obtain ⟨⟨e0, r0⟩, ⟨e1, r1⟩, ⟨e2, r2⟩, x, e3, qx, x0, x5, xl⟩ := lc_in hw
  have n1 := hT 1 (by decide)
  have n2 := hT 2 (by decide)
  have n7 := hT 7 (by decide)
  have n10 := hT 10 (by decide)
  have n12 := hT 12 (by decide)
  have n13 := hT 13 (by decide)
  have n14 := hT 14 (by decide)
  have n15 := hT 15 (by decide)
  have m16 : α 1 = 16 := n2.1.2.2.2.2.2.1 _ r1
  have h16 := n10.1
  have um := n10.2.1
  obtain ⟨rN, rI⟩ := n12.2.2 (α 2) r2
  have fN := nw_ob ht h16
  have fin : ∀ (ρ' : Nat → Nat) (h' : MH), FQ ρ ρ' c_m0.2.1 h h' → TH c_sp ρ' h' → c_PT 1 ρ' h' → c_PT 2 ρ' h' → c_PT 7 ρ' h' → c_PT 10 ρ' h' → c_PT 12 ρ' h' → c_PT 13 ρ' h' → c_PT 14 ρ' h' → c_PT 15 ρ' h' → HJ 0 2036 lv [] h' Q := fun ρ' h' f t a1 a2 a7 a10 a12 a13 a14 a15 => go c_hb hb_mem lv h' ρ' σ α f t (lc_out hw ht f) (by show 0 ≤ -3 * σ 3 + 0 + 2999; omega) (by show -3 * σ 3 + 0 + 2999 < -3 * σ 3 + 0 + 3000; omega) (t_7 a1 a2 a7 a10 a12 a13 a14 a15)
  show HJ 0 1990 lv [] h Q
  refine hI_al (k := 1) rfl e1 rfl ?_
  refine hL_arg (n := 1) rfl rfl rfl rfl rfl (by decide) (by decide) (by decide) e0 e3 ht r0 x0 (by first | exact xl | (rw [s2]; exact xl)) ?_
  generalize hk1 : h_i h (α 0) (x.toInt + 1).toNat = xk1
  refine hM_iv (MX.start (W := []) ht r1) (by decide) rfl rfl (by decide) (as := [.int xk1]) (r := []) rfl rfl (by decide +kernel) rfl (by decide +kernel) rfl rfl rfl rfl rfl ?_
  rw [m16]
  have snd : ∀ (ρ2 : Nat → Nat) (h2 : MH) (z : Int32), FQ ρ ρ2 w_im h h2 → TH c_sp ρ2 h2 → c_PT 1 ρ2 h2 → c_PT 2 ρ2 h2 → c_PT 13 ρ2 h2 → pc_eq h (h_r h 16 0) h2 (h_r h 16 0) → h_r h2 16 0 = h_r h 16 0 → (z.toInt = 0 ∧ (xk1.toInt < 0 ∨ 3 ≤ xk1.toInt) ∧ h2 = h) ∨ (z.toInt = 1 ∧ 0 ≤ xk1.toInt ∧ xk1.toInt < 3 ∧ r_im h2 xk1.toInt.toNat ≠ 0 ∧ pc_eq h (h_r h 16 0) h2 (r_im h2 xk1.toInt.toNat) ∧ (∀ j, j ≠ xk1.toInt.toNat → r_im h2 j = r_im h j) ∧ ∀ j, j < 3 → j ≠ xk1.toInt.toNat → r_im h j ≠ 0 → pc_eq h (r_im h j) h2 (r_im h j)) → HJ 0 1999 lv [.int z] h2 Q := fun ρ2 h2 z f t2 m1 m2 m13 pcN eN2 hz => by
    obtain ⟨s1, s2, s3⟩ := sc_fr ht f r0 (by decide +kernel)
    have r2' : ρ2 (α 2) = 49 := (f.2.1 _ (by rw [r2]; decide)).trans r2
    have h16' : ρ2 16 = 6 := (f.2.1 16 (by rw [h16]; decide)).trans h16
    have um2 : t_um ρ2 := fun m m' e e' => um m m' (fq_m f ht (D := [(49, 1002)]) (by decide +kernel) (by decide) (List.mem_singleton.mpr rfl) e).1 (fq_m f ht (D := [(49, 1002)]) (by decide +kernel) (by decide) (List.mem_singleton.mpr rfl) e').1
    have fN2 : ρ2 (h_r h 16 0) = 7 := (f.2.1 _ (by rw [fN]; decide)).trans fN
    refine hI_pop rfl rfl rfl ?_
    refine hI_al (k := 2) rfl e2 rfl ?_
    refine hL_arg (n := 1) rfl rfl rfl rfl rfl (by decide) (by decide) (by decide) e0 e3 t2 s1 x0 (by first | exact xl | (rw [s2]; exact xl)) ?_
    rw [s3, hk1]
    refine hM_iv (MX.start (W := []) t2 r2') (by decide) rfl rfl (by decide) (as := [.int xk1]) (r := []) rfl rfl (by decide +kernel) rfl (by decide +kernel) rfl rfl rfl rfl rfl ?_
    have v2 := vm_fr ht f (by decide +kernel) r2
    have l16 := (ht.2 16 (by rw [h16]; decide)).1
    have m14 : c_PT 14 ρ2 h2 := c_PTx 14 _ _ _ h h2 ht f (by decide +kernel) n14
    have m15 : c_PT 15 ρ2 h2 := by
      refine im_15 ht n15 f (by decide +kernel) eN2 pcN (fun k hk h0 => ?_)
      rcases hz with ⟨-, -, e⟩ | ⟨-, c0, c3, d1, d2, d3, d4⟩
      · subst e
        exact ⟨_, td_bdI ht (im_ob ht h16 k hk h0), n15.2.2.2.2 k hk h0, pc_same td_same0⟩
      · by_cases ek : k = xk1.toInt.toNat
        · rw [ek]
          exact ⟨h_r h 16 0, td_bdN ht fN, n15.2.2.2.1, d2⟩
        · rw [d3 k ek] at h0 ⊢
          exact ⟨r_im h k, td_bdI ht (im_ob ht h16 k hk h0), n15.2.2.2.2 k hk h0, d4 k hk ek h0⟩
    have M := MX.start (W := w_mg) t2 r2'
    have k0 : ∀ k, k < 3 → (r_im h k = 0 ↔ (h_i h2 (h_r h2 (α 2) 67) k).toInt = 0) := fun k hk3 => by
      have l2 := (ht.2 (α 2) (by rw [r2]; decide)).1
      have ek : h_i h2 (h_r h2 (α 2) 67) k = h_i h (h_r h (α 2) 67) k := fq_arr f ht (D := [(49, 67), (96, 1001), (96, 1002)]) (by decide +kernel) (by decide) rfl rfl rfl (List.mem_of_getElem? (i := 0) rfl) (by decide) (List.mem_of_getElem? (i := 1) rfl) (List.mem_of_getElem? (i := 2) rfl) (by decide) r2 l2 k
      rw [ek]
      exact n10.2.2 (α 2) r2 k hk3
    obtain ⟨VV, hV⟩ : ∃ VV : Nat → Nat → Int, VV = fun K j => (h_i h2 (h_r h2 (α 2) K) j).toInt := ⟨_, rfl⟩
    have k0 : ∀ k, k < 3 → (r_im h k = 0 ↔ VV 67 k = 0) := fun k hk => by
      rw [hV]
      exact k0 k hk
    rw [← hV] at M
    have rw7 := hv_7i M (c_PTx 7 _ _ _ h h2 ht f (by decide +kernel) n7)
    have endd : ∀ (y : Int32) (h3 : MH) (F' : Nat → Int) (V' : Nat → Nat → Int) (G' : Nat → Nat → Int64), y.toInt = z.toInt → p_rw (V' 6) → MX 49 w_mg ρ2 (α 2) (h_r h2 (α 2)) h2 h3 F' V' G' → (∀ k, k < 3 → (r_im h2 k = 0 ↔ V' 67 k = 0)) → vm_eq h2 (α 2) 0 h3 0 → (∀ k, k < 3 → r_im h2 k ≠ 0 → ∃ a s, td_bd h a ∧ pc_eq h a h2 (r_im h2 k) ∧ td_rel h a (α 2) s ∧ vm_eq h2 (α 2) s h3 (k + 1)) → HJ 0 2009 lv [.int y] h3 Q := fun y h3 F' V' G' qy k7 M3 k10 vN vi => by
      refine hI_pop rfl rfl rfl ?_
      refine hI_go (pc' := 2036) rfl (by decide) ?_
      have f3 := M3.1.2.2.fq
      have t3 := M3.1.1
      have eN3 : h_r h3 16 0 = h_r h 16 0 := (M3.gP h16' (by decide) (by decide +kernel)).trans eN2
      have eI3 := im_eq t2 f3 h16' (D := [(6, 1), (8, 1001), (8, 1002)]) (by decide +kernel) (by decide) (by decide) (by decide)
      have sN := td_frN t2 f3 (by decide +kernel) fN2
      refine fin ρ2 h3 ((f.mono (by decide +kernel)).trans (f3.mono (by decide +kernel))) t3 (c_PTx 1 _ _ _ h2 h3 t2 f3 (by decide +kernel) m1) (c_PTx 2 _ _ _ h2 h3 t2 f3 (by decide +kernel) m2) (hv_7 M3 um2 k7) (hv_10 M3 um2 h16' (fun k hk3 => by rw [eI3]; exact k10 k hk3)) (rt_mk h16' um2 r2' ?_ (fun k hk h0 => ?_)) (c_PTx 13 _ _ _ h2 h3 t2 f3 (by decide +kernel) m13) (c_PTx 14 _ _ _ h2 h3 t2 f3 (by decide +kernel) m14) (c_PTx 15 _ _ _ h2 h3 t2 f3 (by decide +kernel) m15)
      · rw [eN3]
        exact td_move (td_bdN ht fN) (pc_eqT pcN (pc_same sN)) (vm_eqT (vm_sameE v2) vN) rN
      · rw [eI3] at h0 ⊢
        have oI := im_ob t2 h16' k hk h0
        obtain ⟨a, s, bd, pc, td, vs⟩ := vi k hk h0
        exact td_move bd (pc_eqT pc (pc_same (td_frI t2 f3 (by decide +kernel) oI))) (vm_eqT (vm_sameE v2) vs) td
    refine c_mimage M rfl rfl rfl (by decide +kernel) (by decide +kernel) (c_ca (by decide +kernel)) (fun y h3 F' qy hb M3 => ?_) (fun y h1 h3 F' V1 G' qy c0 c2 v67 M1 ψ M3 => ?_)
    · rcases hz with ⟨q, -, e⟩ | ⟨-, c0, c3, -⟩
      · subst e
        exact endd y h3 F' _ _ (by omega) rw7 M3 k0 (vm_mk M M3 (fun _ _ => rfl) (fun _ _ => rfl) (fun _ _ => rfl)) (fun k hk h0 => ⟨_, k + 1, td_bdI ht (im_ob ht h16 k hk h0), pc_same td_same0, rI k hk h0, vm_mk M M3 (fun _ _ => rfl) (fun _ _ => rfl) (fun _ _ => rfl)⟩)
      · omega
    · rcases hz with ⟨-, hb, -⟩ | ⟨q, -, c3, d1, d2, d3, d4⟩
      · omega
      · have ψ : cp_all (0 : Int).toNat (xk1.toInt + 1).toNat VV V1 := ψ
        have es : (xk1.toInt + 1).toNat = xk1.toInt.toNat + 1 := by omega
        rw [es, show (0 : Int).toNat = 0 from rfl] at ψ
        have ψ3 : ∀ K, K < 7 → m_u V1 67 (m_u (V1 67) xk1.toInt.toNat 1) K = V1 K := fun K hK => m_uN _ _ _ _ (by omega)
        have w1 : ∀ s, vm_eq h2 (α 2) s h1 s → True := fun _ _ => trivial
        have mv : ∀ s s', vm_eq h2 (α 2) s h1 s' → vm_eq h2 (α 2) s h3 s' := fun s s' e => vm_eqT e (vm_mk M1 M3 (fun K hK => by rw [ψ3 K (by omega)]) (fun j _ => by rw [ψ3 1 (by decide)]) (fun j _ => by rw [ψ3 6 (by decide)]))
        refine endd y h3 F' _ G' (by omega) (by rw [ψ3 6 (by decide)]; exact p_rwC ψ.2.2.2.2.2.1 (by decide) rw7) M3 (fun k hk3 => ?_) (mv 0 0 (vm_cpO M M1 ψ (by omega))) (fun k hk h0 => ?_)
        · rw [m_uE]
          by_cases ek : k = xk1.toInt.toNat
          · rw [ek, m_uE]
            exact ⟨fun z => absurd z d1, fun z => by cases z⟩
          · rw [m_uN _ _ _ _ ek, d3 k ek, v67]
            exact k0 k hk3
        · by_cases ek : k = xk1.toInt.toNat
          · subst ek
            exact ⟨h_r h 16 0, 0, td_bdN ht fN, d2, rN, mv 0 _ (vm_cpT M M1 ψ)⟩
          · rw [d3 k ek] at h0 ⊢
            exact ⟨r_im h k, k + 1, td_bdI ht (im_ob ht h16 k hk h0), d4 k hk ek h0, rI k hk h0, mv _ _ (vm_cpO M M1 ψ (by omega))⟩
  have no : ∀ z : Int32, z.toInt = 0 → (xk1.toInt < 0 ∨ 3 ≤ xk1.toInt) → HJ 0 1999 lv [.int z] h Q := fun z qz hb => snd ρ h z (FQ.refl _ _ _) ht n1 n2 n13 (pc_same td_same0) rfl (Or.inl ⟨qz, hb, rfl⟩)
  by_cases hk3 : xk1.toInt.toNat < 3
  · refine c_image (fun ρ' h' a b h'' => ct_I h' a b 4 h'') ht h16 n1 n2 rfl rfl (fun ρ' h' a b Q' I ea eb f t ra rb g => ?_) (fun ρ2 h' h2 z b0 b2 qz f t2 m1 m2 I fs J => ?_) no
    · have ow : ow_ne h' a a := by
        by_cases e : h_r h (r_I h) xk1.toInt.toNat = 0
        · rw [ea]
          exact (I.2.2.2.2.2 e).2.2
        · obtain ⟨e1, -⟩ := I.2.2.1 e
          rw [ea, e1]
          exact (n13.2.2 _ _ hk3 hk3 e e).1
      refine HJ.both (r_toldI t ra rb ow (Q := fun v h'' => v = none ∧ ct_I h' a b 4 h'') (fun h'' J => ⟨rfl, J⟩)) (c_k1095 (Q := fun v h'' => ∃ ρ2, FQ ρ' ρ2 c_m1095.2.1 h' h'' ∧ TH c_sp ρ2 h'') (hC.x f) t rfl rfl ra rb (fi_rg t (by decide) rfl (k := 2) rfl rb) (fun ρ2 h2 f2 t2 _ _ => ⟨ρ2, f2, t2⟩)) (fun v h'' ⟨ev, J⟩ ⟨ρ2, f2, t2⟩ => ?_)
      subst ev
      obtain ⟨er, fs⟩ := FS.ofFQ (by decide +kernel) f2
      subst er
      exact g h'' (fs.mono (by decide +kernel)) t2 J
    · have I6 := I.2.2.2.2.1
      have l16 := (ht.2 16 (by rw [h16]; decide)).1
      have fI : ρ (r_I h) = 8 := (th_rf ht (R := 6) (by decide) rfl h16 (k := 1) rfl (fun z => by cases z)).2
      have Il := (ht.2 (r_I h) (by rw [fI]; decide)).1
      have ne16 : (16 : Nat) ≠ r_I h := ne_r h16 fI (by decide)
      have er : ∀ x i, h_r h2 x i = h_r h' x i := fun x i => (J.1.2.2 x i).2
      have eI : r_I h2 = r_I h := (er 16 1).trans (((I6 16 l16).2 1).2.2 (fun z => ne16 z.1))
      have eN : h_r h2 16 0 = h_r h 16 0 := (er 16 0).trans (((I6 16 l16).2 0).2.2 (fun z => ne16 z.1))
      have own : r_im h2 xk1.toInt.toNat = h_r h' (r_I h) xk1.toInt.toNat := by
        unfold r_im
        rw [eI, er]
      have oth : ∀ j, j ≠ xk1.toInt.toNat → r_im h2 j = r_im h j := fun j hj => by
        unfold r_im
        rw [eI, er]
        exact ((I6 _ Il).2 j).2.2 (fun z => hj z.2)
      have h162 : ρ2 16 = 6 := (f.2.1 16 (by rw [h16]; decide)).trans h16
      obtain ⟨⟨f1, t1⟩, rk, -⟩ := id I
      have fN2 : ρ2 (h_r h 16 0) = 7 := (f1.2.1 _ (by rw [fN]; decide)).trans fN
      have p1 : td_same h h' (h_r h 16 0) := td_frN ht f1 (by decide +kernel) fN
      have p2 : td_same h' h2 (h_r h 16 0) := td_frN t1 fs.fq (by decide +kernel) fN2
      exact snd ρ2 h2 z f t2 m1 m2 (img_ow ht h16 n13 hk3 I J eN h162 own oth) (pc_same (td_sameT p1 p2)) eN (Or.inr ⟨qz, b0, by omega, by rw [own]; exact th_na t1 rk (by decide), by rw [own]; exact pc_eqT (pc_same p1) (ct_pc J), oth, fun j hj hjk h0 => pc_same (img_pc ht h16 n13 hk3 I J hj hjk h0)⟩)
  · have hb : 3 ≤ xk1.toInt := by omega
    refine hI_il (k := 1) rfl rfl rfl ?_
    refine hM_zlt (off := 8) (t := 9) rfl rfl (by decide) rfl (fun c => absurd c (by omega)) (fun cA => ?_)
    refine hI_il (k := 1) rfl rfl rfl ?_
    refine hM_ic (n := 3) rfl (by decide) rfl (fun x3 q3 => ?_)
    refine hM_clt (off := 5) (t := 11) rfl rfl q3 (by decide) rfl (fun c => absurd c (by omega)) (fun c => ?_)
    exact hM_ic (n := 0) rfl (by decide) rfl (fun z q => hM_rb rfl rfl q (by omega) (by omega) (no z q (Or.inr hb)))
-- pasts in force, at the law
section
variable {Q : Option Value → MH → Prop} {ρ : Nat → Nat} {h : MH}
theorem r_pastOf {xr : Int32} (ht : TH c_sp ρ h) (h16 : ρ 16 = 6) (g : ∀ p, (0 ≤ xr.toInt ∧ xr.toInt < q_fd h (h_r h 16 0) 5 ∧ p = r_sl h xr.toInt.toNat) ∨ (¬ (0 ≤ xr.toInt ∧ xr.toInt < q_fd h (h_r h 16 0) 5) ∧ p = 0) → Q (some (.ref p)) h) : HJ 90 0 (lv_args 0 [.ref 16, .int xr]) [] h Q := by
  have fN := nw_ob ht h16
  have b5 := (td_bdN ht fN).2.1
  have fP : ρ (r_P h) = 9 := (th_rf ht (R := 6) (by decide) rfl h16 (k := 2) rfl (fun z => by cases z)).2
  have k16 : (h_k h 16).1 = 9 := (t_spec ht (by decide) (rfl : c_sp[6]? = some _) h16).1
  have cP := t_spec ht (by decide) (rfl : c_sp[9]? = some _) fP
  have kP : (h_k h (r_P h)).1 = 31 := cP.1
  have lP : 4 ≤ (h_k h (r_P h)).2 := cP.2.1.1
  refine hI_al (k := 0) rfl rfl rfl ?_
  refine hI_il (k := 1) rfl rfl rfl ?_
  refine hM_iv (MX.start (W := []) ht h16) (by decide) rfl rfl (by decide) (as := [.int xr]) (r := []) rfl rfl (by decide +kernel) rfl (by decide +kernel) rfl rfl rfl rfl rfl ?_
  refine c_isr11 (MX.start (W := []) ht fN) h16 rfl (by decide +kernel) rfl (fun z hz => ?_)
  have hz : (z.toInt = 1 ∧ 0 ≤ xr.toInt ∧ xr.toInt < q_fd h (h_r h 16 0) 5) ∨ (z.toInt = 0 ∧ (xr.toInt < 0 ∨ q_fd h (h_r h 16 0) 5 ≤ xr.toInt)) := hz
  show HJ 90 5 _ [.int z] h Q
  refine hM_zeq (off := 12) (t := 17) rfl (zx := z.toInt) rfl (by decide) rfl (fun c => ?_) (fun c => ?_)
  · refine hI_nul rfl rfl ?_
    exact hI_ra rfl rfl (g 0 (Or.inr ⟨by omega, rfl⟩))
  · refine hI_al (k := 0) rfl rfl rfl ?_
    refine hI_gr rfl rfl rfl k16 rfl ?_
    refine hI_il (k := 1) rfl rfl rfl ?_
    refine hI_aa (o := r_P h) rfl ⟨by rw [kP]; decide, by rw [kP]; decide⟩ (by omega) (by omega) rfl ?_
    refine hI_go (pc' := 18) (off := 4) rfl (by decide) ?_
    exact hI_ra rfl rfl (g _ (Or.inl ⟨by omega, by omega, rfl⟩))
-- the slot of a row that is there, and its past's book
theorem pb_at {r : Int} (ht : TH c_sp ρ h) (n15 : c_PT 15 ρ h) (r0 : 0 ≤ r) (r1 : r < q_fd h (h_r h 16 0) 5) : r.toNat < 4 ∧ r_sl h r.toNat ≠ 0 ∧ bk_0 h (r_sl h r.toNat) (ac_Y h (q_ac h (h_r h 16 0) r.toNat)) ∧ ρ (r_sl h r.toNat) = 29 := by
  obtain ⟨h16, -, k2, -⟩ := n15
  have b5 := (td_bdN ht (nw_ob ht h16)).2.1
  obtain ⟨y1, y2⟩ := k2 r.toNat (by omega)
  exact ⟨by omega, y1, y2, sl_ob ht h16 (by omega) y1⟩
end
-- a row of acts of both sides: one run
theorem ac_ref {h : MH} {c b : Nat} {U : Nat → Int} (a : ac_rel h c U b) (q0 : 0 ≤ q_fd h c 2) (av : av_c h c) : (ry_run (fun j => U (b + 1 + j)) (U b).toNat).1 = ac_Y h c ∧ ∀ q, q < (U b).toNat → av_1 (U (b + 1 + 4 * q)) (U (b + 1 + (4 * q + 2))) (U (b + 1 + (4 * q + 3))) := by
  obtain ⟨a1, a2⟩ := a
  have eN : ac_N h c = (U b).toNat := by
    unfold ac_N
    rw [a1]
  have eT : ∀ j, j < 4 * (U b).toNat → ac_T h c j = U (b + 1 + j) := ac_TI (U := fun j => U (b + 1 + j)) (fun k hk => by
    obtain ⟨y1, y2⟩ := a2 k (by omega)
    exact ⟨y1, fun i hi => by
      show q_nm h c (3 * k + i) = U (b + 1 + (4 * k + 1 + i))
      rw [y2 i hi, show b + 2 + 4 * k + i = b + 1 + (4 * k + 1 + i) by omega]⟩)
  refine ⟨?_, fun q hq => ?_⟩
  · unfold ac_Y
    rw [eN, ry_runC _ eT]
  · have := (av q (by omega)).2.1
    rw [eT (4 * q) (by omega), eT (4 * q + 2) (by omega), eT (4 * q + 3) (by omega)] at this
    exact this
def w_st : List (Nat × Nat) := (49, 0) :: g_la
-- a run's parents lie ahead
-- the law's arguments that are truth values, longs
def bz (x : Int32) : Int32 := if x.toInt = 0 then Int32.ofInt 0 else Int32.ofInt 1
theorem hL_bool {pc : Nat} {x : Int32} {lv : List (Nat × Value)} {st : List Value} {h : MH} {Q : Option Value → MH → Prop} (a1 : m_at 0 pc = some (.ifCond .eq 7, 3)) (a2 : m_at 0 (pc + 3) = some (.iconst 1, 1)) (a3 : m_at 0 (pc + 4) = some (.goto 4, 3)) (a4 : m_at 0 (pc + 7) = some (.iconst 0, 1)) (g : HJ 0 (pc + 8) lv (.int (bz x) :: st) h Q) : HJ 0 pc lv (.int x :: st) h Q := by
  refine hM_zeq (off := 7) (t := pc + 7) a1 (zx := x.toInt) rfl (by omega) rfl (fun c => ?_) (fun c => ?_)
  · refine hI_ic (n := 0) a4 rfl ?_
    rw [show bz x = Int32.ofInt 0 from if_pos c] at g
    exact g
  · refine hI_ic (n := 1) a2 rfl ?_
    refine hI_go (pc' := pc + 8) (off := 4) a3 (by omega) ?_
    rw [show bz x = Int32.ofInt 1 from if_neg c] at g
    exact g
theorem bz_01 (x : Int32) : (bz x).toInt = 0 ∨ (bz x).toInt = 1 := by
  unfold bz
  split
  · exact Or.inl (by decide)
  · exact Or.inr (by decide)

theorem ry_okR {T : Nat → Int} : ∀ N, (∀ k, k < N → av_2 T k) → ∃ k, k ≤ N ∧ ry_ok (ry_run T N).1 k ∧ ((ry_run T N).2 = true → k = N)
  | 0, _ => ⟨0, Nat.le_refl _, ry_ok0, fun _ => rfl⟩
  | N + 1, av => by
    obtain ⟨k, k1, k2, k3⟩ := ry_okR N (fun q hq => av q (by omega))
    by_cases f : (ry_run T N).2 = true
    · have ek := k3 f
      subst ek
      cases e : ry_do (ry_z (ry_run T k).1) (T (4 * k)) (T (4 * k + 1)) (T (4 * k + 2)) (T (4 * k + 3)) with
      | none =>
        rw [ry_run0 f e]
        exact ⟨k, by omega, k2, fun z => absurd (show false = true from z) (by decide)⟩
      | some X =>
        rw [ry_run1 f e]
        exact ⟨k + 1, by omega, ry_okS k2 e (av k (by omega)).2.2, fun _ => rfl⟩
    · have f' : (ry_run T N).2 = false := by simpa using f
      rw [ry_runE f' 1]
      exact ⟨k, by omega, k2, fun z => absurd z f⟩
-- a row laid by the reference is the run of the class's acts
theorem ly_ac {ρ : Nat → Nat} {h : MH} {m : Nat} {VV : Nat → Nat → Int} {r : Int} (ht : TH c_sp ρ h) (n15 : c_PT 15 ρ h) (rN : td_rel h (h_r h 16 0) m 0) (vq : ∀ K j, VV K j = q_vm h m K j) (r0 : 0 ≤ r) (r1 : r < VV 5 0) : (∃ n, n ≤ 40 ∧ ry_ok (ac_Y h (q_ac h (h_r h 16 0) r.toNat)) n) ∧ ∀ F' V', ly_E (fun j => VV 6 (161 * r.toNat + 1 + j)) (VV 6 (161 * r).toNat).toNat F' V' → ry_of (m_u F' 19 0) V' (ry_z (ac_Y h (q_ac h (h_r h 16 0) r.toNat))) := by
  obtain ⟨⟨-, -, -, f5⟩, -, ra⟩ := rN
  have fN := nw_ob ht n15.1
  have b5 := (td_bdN ht fN).2.1
  have e5 : q_fd h (h_r h 16 0) 5 = VV 5 0 := f5.trans (vq 5 0).symm
  have rr : (r.toNat : Int) < q_fd h (h_r h 16 0) 5 := by omega
  have oc := ((td_obN ht fN).2.2 r.toNat (by omega)).1
  have c := (t_spec ht (by decide) (rfl : c_sp[12]? = some _) oc).2.2.2 2 (.inl (0, 40)) rfl (fun z => by cases z)
  have c0 : 0 ≤ q_fd h (q_ac h (h_r h 16 0) r.toNat) 2 ∧ q_fd h (q_ac h (h_r h 16 0) r.toNat) 2 ≤ 40 := c
  have av := n15.2.2.2.1 r.toNat rr
  obtain ⟨w1, w2⟩ := ac_ref (ra r.toNat rr) c0.1 av
  refine ⟨?_, fun F' V' b3 => ?_⟩
  · obtain ⟨k, k1, k2, -⟩ := ry_okR (ac_N h (q_ac h (h_r h 16 0) r.toNat)) (fun k hk => av k (by unfold ac_N at hk; omega))
    have : ac_N h (q_ac h (h_r h 16 0) r.toNat) ≤ 40 := by
      unfold ac_N
      omega
    exact ⟨k, by omega, k2⟩
  · have eU : ∀ j, VV 6 (161 * r.toNat + 1 + j) = q_vm h m 6 (644 * 0 + 161 * r.toNat + 1 + j) := fun j => by
      rw [show 644 * 0 + 161 * r.toNat + 1 + j = 161 * r.toNat + 1 + j by omega]
      exact vq 6 _
    have eB : VV 6 (161 * r).toNat = q_vm h m 6 (644 * 0 + 161 * r.toNat) := by
      rw [show 644 * 0 + 161 * r.toNat = (161 * r).toNat by omega]
      exact vq 6 _
    unfold ly_E at b3
    simp only [eU, eB] at b3
    have b4 := b3 (fun q hq => w2 q hq)
    rw [w1] at b4
    exact b4
-- what an act was paid, by the reference
theorem w_bm (s : Int) : ∃ q : Int, s.bmod (2 ^ 32) = s + 4294967296 * q := by
  show ∃ q : Int, (if s % ((2 ^ 32 : Nat) : Int) < (((2 ^ 32 : Nat) : Int) + 1) / 2 then s % ((2 ^ 32 : Nat) : Int) else s % ((2 ^ 32 : Nat) : Int) - ((2 ^ 32 : Nat) : Int)) = _
  have e : ((2 ^ 32 : Nat) : Int) = 4294967296 := rfl
  rw [e]
  split
  · exact ⟨-(s / 4294967296), by omega⟩
  · exact ⟨-(s / 4294967296) - 1, by omega⟩
theorem w_add (x y : Int32) : ∃ q : Int, (x + y).toInt = x.toInt + y.toInt + 4294967296 * q := by
  rw [Int32.toInt_add]
  exact w_bm _
theorem w_sub (x y : Int32) : ∃ q : Int, (x - y).toInt = x.toInt - y.toInt + 4294967296 * q := by
  rw [Int32.toInt_sub]
  exact w_bm _
section
variable {i pc pc' : Nat} {lv : List (Nat × Value)} {st : List Value} {h : MH} {Q : Option Value → MH → Prop}
theorem hM_addq {x y : Int32} {zx zy : Int} (a : m_at i pc = some (.iadd, 1)) (hx : x.toInt = zx) (hy : y.toInt = zy) (hp : pc + 1 = pc') (g : ∀ (w : Int32) (z q : Int), w.toInt = z → z = zx + zy + 4294967296 * q → HJ i pc' lv (.int w :: st) h Q) : HJ i pc lv (.int y :: .int x :: st) h Q := by
  obtain ⟨q, e⟩ := w_add x y
  exact hI_add a hp (g _ _ q rfl (by rw [e, hx, hy]))
theorem hM_subq {x y : Int32} {zx zy : Int} (a : m_at i pc = some (.isub, 1)) (hx : x.toInt = zx) (hy : y.toInt = zy) (hp : pc + 1 = pc') (g : ∀ (w : Int32) (z q : Int), w.toInt = z → z = zx - zy + 4294967296 * q → HJ i pc' lv (.int w :: st) h Q) : HJ i pc lv (.int y :: .int x :: st) h Q := by
  obtain ⟨q, e⟩ := w_sub x y
  exact hI_sub a hp (g _ _ q rfl (by rw [e, hx, hy]))
theorem hI_ldc {idx : Nat} {x : Int32} (a : m_at i pc = some (.ldc idx, 2)) (hx : m_ic i idx = some x) (hp : pc + 2 = pc') (g : HJ i pc' lv (.int x :: st) h Q) : HJ i pc lv st h Q := by
  subst hp
  refine HJ.ex a (Or.inl rfl) ?_ g
  show e_ldc 2 i idx pc lv st h = _
  unfold e_ldc
  rw [hx]
  rfl
theorem hI_ldw {idx : Nat} {x : Int32} (a : m_at i pc = some (.ldc_w idx, 3)) (hx : m_ic i idx = some x) (hp : pc + 3 = pc') (g : HJ i pc' lv (.int x :: st) h Q) : HJ i pc lv st h Q := by
  subst hp
  refine HJ.ex a (Or.inl rfl) ?_ g
  show e_ldc 3 i idx pc lv st h = _
  unfold e_ldc
  rw [hx]
  rfl
theorem hI_nl {off : Int} {o t : Nat} (a : m_at i pc = some (.ifnull off, 3)) (ht : (pc : Int) + off = (t : Int)) (hp : pc + 3 = pc') (ho : o = 0 ∨ 16 ≤ o) (g1 : o = 0 → HJ i t lv st h Q) (g2 : o ≠ 0 → HJ i pc' lv st h Q) : HJ i pc lv (.ref o :: st) h Q := by
  subst hp
  by_cases e : o = 0
  · refine HJ.ex (pc' := t) a (Or.inl rfl) ?_ (g1 e)
    show (if o = 0 then m_tg pc off lv st h else if 16 ≤ o then m_go (pc + 3) lv st h else none) = _
    rw [if_pos e]
    unfold m_tg
    rw [ht, if_pos (Int.natCast_nonneg t), Int.toNat_natCast]
  · refine HJ.ex (pc' := pc + 3) a (Or.inl rfl) ?_ (g2 e)
    show (if o = 0 then m_tg pc off lv st h else if 16 ≤ o then m_go (pc + 3) lv st h else none) = _
    rw [if_neg e, if_pos (by omega)]
    rfl
theorem hI_tsd {d lo hi : Int} {offs : Array Int} {len t : Nat} {x : Int32} (a : m_at i pc = some (.tableswitch d lo hi offs, len)) (b : x.toInt < lo ∨ hi < x.toInt) (ht : (pc : Int) + d = (t : Int)) (g : HJ i t lv st h Q) : HJ i pc lv (.int x :: st) h Q := by
  refine HJ.ex (pc' := t) a (Or.inr rfl) ?_ g
  show (if x.toInt < lo ∨ hi < x.toInt then m_tg pc d lv st h else (match offs[(x.toInt - lo).toNat]? with
      | some o => m_tg pc o lv st h
      | none => none)) = _
  rw [if_pos b]
  unfold m_tg
  rw [ht, if_pos (Int.natCast_nonneg t), Int.toNat_natCast]
end
-- how many roots
def y_sm (f : Nat → Int) : Nat → Nat
  | 0 => 0
  | r + 1 => y_sm f r + y_tg (f r)
theorem y_smC {f f' : Nat → Int} : ∀ {r : Nat}, (∀ j, j < r → f' j = f j) → y_sm f' r = y_sm f r
  | 0, _ => rfl
  | r + 1, h => by
    rw [y_sm, y_sm, y_smC (fun j hj => h j (by omega)), h r (by omega)]
theorem y_tgB (x : Int) : y_tg x ≤ 1 := by
  unfold y_tg
  split <;> omega
theorem y_smP {f : Nat → Int} : p_bc (p_ws f 6) = y_sm f 6 := by
  have b0 := y_tgB (f 0)
  have b1 := y_tgB (f 1)
  have b2 := y_tgB (f 2)
  have b3 := y_tgB (f 3)
  have b4 := y_tgB (f 4)
  have b5 := y_tgB (f 5)
  show p_bc (0 + y_tg (f 0) * 2 ^ 0 + y_tg (f 1) * 2 ^ 1 + y_tg (f 2) * 2 ^ 2 + y_tg (f 3) * 2 ^ 3 + y_tg (f 4) * 2 ^ 4 + y_tg (f 5) * 2 ^ 5) = 0 + y_tg (f 0) + y_tg (f 1) + y_tg (f 2) + y_tg (f 3) + y_tg (f 4) + y_tg (f 5)
  generalize y_tg (f 0) = a0 at *
  generalize y_tg (f 1) = a1 at *
  generalize y_tg (f 2) = a2 at *
  generalize y_tg (f 3) = a3 at *
  generalize y_tg (f 4) = a4 at *
  generalize y_tg (f 5) = a5 at *
  unfold p_bc
  omega
section
variable {lv : List (Nat × Value)} {Q : Option Value → MH → Prop} {W : List (Nat × Nat)} {ρ : Nat → Nat} {m : Nat} {A : Nat → Nat} {h0 h : MH} {F : Nat → Int} {V : Nat → Nat → Int} {G : Nat → Nat → Int64}
theorem s_cd0 {v : Int} (M : MX 49 W ρ m A h0 h F V G) (e0 : m_lk lv 0 = some (.ref m)) {lx1 : Int32} (e1 : m_lk lv 1 = some (.int lx1)) (lq1 : lx1.toInt = v) 
    (g0 : ∀ x1 : Int32, x1.toInt = 0 → ∀ x3 : Int32, x3.toInt = 0 → ∀ lv4 : List (Nat × Value), m_lk lv4 0 = some (.ref m) → m_lk lv4 1 = some (.int lx1) → m_lk lv4 2 = some (.int x1) → m_lk lv4 3 = some (.int x3) → HJ 225 4 lv4 [] h Q)
    : HJ 225 0 lv [] h Q := by
  refine hM_ic (n := 0) rfl (by decide) rfl (fun x1 q1 => ?_) -- 0
  refine hM_si (k := 2) rfl (by decide +kernel) rfl (fun lv2 e2_2 u2 => ?_) -- 1
  have e2_0 := u2 0 _ (by decide) (Or.inl rfl) e0
  have e2_1 := u2 1 _ (by decide) (Or.inl rfl) e1
  refine hM_ic (n := 0) rfl (by decide) rfl (fun x3 q3 => ?_) -- 2
  refine hM_si (k := 3) rfl (by decide +kernel) rfl (fun lv4 e4_3 u4 => ?_) -- 3
  have e4_0 := u4 0 _ (by decide) (Or.inl rfl) e2_0
  have e4_1 := u4 1 _ (by decide) (Or.inl rfl) e2_1
  have e4_2 := u4 2 _ (by decide) (Or.inl rfl) e2_2
  exact g0 x1 q1 x3 q3 lv4 e4_0 e4_1 e4_2 e4_3
theorem s_cd4 {v n r : Int} (M : MX 49 W ρ m A h0 h F V G) (e0 : m_lk lv 0 = some (.ref m)) {lx1 : Int32} (e1 : m_lk lv 1 = some (.int lx1)) (lq1 : lx1.toInt = v) {lx2 : Int32} (e2 : m_lk lv 2 = some (.int lx2)) (lq2 : lx2.toInt = n) {lx3 : Int32} (e3 : m_lk lv 3 = some (.int lx3)) (lq3 : lx3.toInt = r) (v0 : 0 ≤ v) (v1 : v ≤ 40) (r0 : 0 ≤ r) (n0 : 0 ≤ n) (n1 : n ≤ r)
    (g0 : r ≥ 6 → Q (some (.int lx2)) h)
    (g1 : ∀ x8 : Int32, x8.toInt = n + 1 → ∀ x10 : Int32, x10.toInt = r + 1 → ∀ lv10 : List (Nat × Value), m_lk lv10 0 = some (.ref m) → m_lk lv10 1 = some (.int lx1) → m_lk lv10 2 = some (.int x8) → m_lk lv10 3 = some (.int x10) → r < 6 → (-1) ≤ V 36 ((6 * v) + r).toNat → V 36 ((6 * v) + r).toNat ≤ 15999 → V 36 ((6 * v) + r).toNat ≠ (-1) → HJ 225 4 lv10 [] h Q)
    (g2 : ∀ x12 : Int32, x12.toInt = n + 0 → ∀ x14 : Int32, x14.toInt = r + 1 → ∀ lv14 : List (Nat × Value), m_lk lv14 0 = some (.ref m) → m_lk lv14 1 = some (.int lx1) → m_lk lv14 2 = some (.int x12) → m_lk lv14 3 = some (.int x14) → r < 6 → (-1) ≤ V 36 ((6 * v) + r).toNat → V 36 ((6 * v) + r).toNat ≤ 15999 → V 36 ((6 * v) + r).toNat = (-1) → HJ 225 4 lv14 [] h Q)
    : HJ 225 4 lv [] h Q := by
  refine hI_il (k := 3) rfl e3 rfl ?_ -- 4
  refine hM_bp (n := 6) rfl (by decide) rfl (fun x1 q1 => ?_) -- 5
  refine hM_cge (off := 32) (t := 39) rfl lq3 q1 (by decide) rfl (fun c7 => ?_) (fun c7 => ?_) -- 7
  · refine hI_il (k := 2) rfl e2 rfl ?_ -- 39
    refine hI_ri rfl rfl ?_ -- 40
    exact g0 c7
  · refine hI_il (k := 2) rfl e2 rfl ?_ -- 10
    refine hI_al (k := 0) rfl e0 rfl ?_ -- 11
    refine hM_ga M (by decide) rfl rfl (k := 36) (c := 9) rfl rfl rfl (by decide +kernel) rfl ?_ -- 12
    refine hM_bp (n := 6) rfl (by decide) rfl (fun x2 q2 => ?_) -- 15
    refine hI_il (k := 1) rfl e1 rfl ?_ -- 17
    refine hM_mul rfl q2 lq1 (by omega) (by omega) rfl (fun x3 q3 => ?_) -- 18
    refine hI_il (k := 3) rfl e3 rfl ?_ -- 19
    refine hM_add rfl q3 lq3 (by omega) (by omega) rfl (fun x4 q4 => ?_) -- 20
    refine hM_ia M (by decide) (K := 36) (R2 := 71) (L := 246) (H := 246) (lo := (-1)) (hi := 15999) rfl (by decide) rfl rfl (fun _ => rfl) rfl q4 (by omega) (by omega) rfl (fun x5 q5 a5 b5 => ?_) -- 21
    refine hM_ic (n := (-1)) rfl (by decide) rfl (fun x6 q6 => ?_) -- 22
    refine hM_cne (off := 7) (t := 30) rfl q5 q6 (by decide) rfl (fun c23 => ?_) (fun c23 => ?_) -- 23
    · refine hM_ic (n := 1) rfl (by decide) rfl (fun x7 q7 => ?_) -- 30
      refine hM_add rfl lq2 q7 (by omega) (by omega) rfl (fun x8 q8 => ?_) -- 31
      refine hM_si (k := 2) rfl (by decide +kernel) rfl (fun lv9 e9_2 u9 => ?_) -- 32
      have e9_0 := u9 0 _ (by decide) (Or.inl rfl) e0
      have e9_1 := u9 1 _ (by decide) (Or.inl rfl) e1
      have e9_3 := u9 3 _ (by decide) (Or.inl rfl) e3
      refine hM_inc (k := 3) (z := 1) rfl e9_3 lq3 (by decide) (by omega) (by omega) (by decide +kernel) rfl (fun lv10 x10 q10 e10_3 u10 => ?_) -- 33
      have e10_0 := u10 0 _ (by decide) (Or.inl rfl) e9_0
      have e10_1 := u10 1 _ (by decide) (Or.inl rfl) e9_1
      have e10_2 := u10 2 _ (by decide) (Or.inl rfl) e9_2
      refine hI_go (pc' := 4) (off := (-32)) rfl (by decide) ?_ -- 36
      exact g1 x8 q8 x10 q10 lv10 e10_0 e10_1 e10_2 e10_3 c7 a5 b5 c23
    · refine hM_ic (n := 0) rfl (by decide) rfl (fun x11 q11 => ?_) -- 26
      refine hI_go (pc' := 31) (off := 4) rfl (by decide) ?_ -- 27
      refine hM_add rfl lq2 q11 (by omega) (by omega) rfl (fun x12 q12 => ?_) -- 31
      refine hM_si (k := 2) rfl (by decide +kernel) rfl (fun lv13 e13_2 u13 => ?_) -- 32
      have e13_0 := u13 0 _ (by decide) (Or.inl rfl) e0
      have e13_1 := u13 1 _ (by decide) (Or.inl rfl) e1
      have e13_3 := u13 3 _ (by decide) (Or.inl rfl) e3
      refine hM_inc (k := 3) (z := 1) rfl e13_3 lq3 (by decide) (by omega) (by omega) (by decide +kernel) rfl (fun lv14 x14 q14 e14_3 u14 => ?_) -- 33
      have e14_0 := u14 0 _ (by decide) (Or.inl rfl) e13_0
      have e14_1 := u14 1 _ (by decide) (Or.inl rfl) e13_1
      have e14_2 := u14 2 _ (by decide) (Or.inl rfl) e13_2
      refine hI_go (pc' := 4) (off := (-32)) rfl (by decide) ?_ -- 36
      exact g2 x12 q12 x14 q14 lv14 e14_0 e14_1 e14_2 e14_3 c7 a5 b5 c23
theorem s_pd0 {k : Int} (M : MX 49 W ρ m A h0 h F V G) (e0 : m_lk lv 0 = some (.ref m)) {lx1 : Int32} (e1 : m_lk lv 1 = some (.int lx1)) (lq1 : lx1.toInt = k) (k0 : 0 ≤ k) (k1 : k ≤ 39)
    (g0 : ∀ x1 : Int32, x1.toInt = V 38 (k).toNat → ∀ x3 : Int32, x3.toInt = k + 1 → HJ 225 0 (lv_args 0 [.ref m, .int x3]) [] h (fun v h' => HJ 224 13 lv (v.toList ++ [.int x1]) h' Q))
    : HJ 224 0 lv [] h Q := by
  refine hI_al (k := 0) rfl e0 rfl ?_ -- 0
  refine hM_ga M (by decide) rfl rfl (k := 38) (c := 9) rfl rfl rfl (by decide +kernel) rfl ?_ -- 1
  refine hI_il (k := 1) rfl e1 rfl ?_ -- 4
  refine hM_ia M (by decide) (K := 38) (R2 := 73) (L := 40) (H := 40) (lo := (-2147483648)) (hi := 2147483647) rfl (by decide) rfl rfl (fun _ => rfl) rfl lq1 (by omega) (by omega) rfl (fun x1 q1 a1 b1 => ?_) -- 5
  refine hI_al (k := 0) rfl e0 rfl ?_ -- 6
  refine hI_il (k := 1) rfl e1 rfl ?_ -- 7
  refine hM_ic (n := 1) rfl (by decide) rfl (fun x2 q2 => ?_) -- 8
  refine hM_add rfl lq1 q2 (by omega) (by omega) rfl (fun x3 q3 => ?_) -- 9
  refine hM_iv M (by decide) rfl rfl (by decide) (as := [.int x3]) (r := [.int x1]) rfl rfl (by decide +kernel) rfl (by decide +kernel) rfl rfl rfl rfl rfl ?_ -- 10
  exact g0 x1 q1 x3 q3
theorem s_pd13 {k l c : Int} (M : MX 49 W ρ m A h0 h F V G) (e0 : m_lk lv 0 = some (.ref m)) {lx1 : Int32} (e1 : m_lk lv 1 = some (.int lx1)) (lq1 : lx1.toInt = k) {sx0 : Int32} (sq0 : sx0.toInt = l) {sx1 : Int32} (sq1 : sx1.toInt = c) (k0 : 0 ≤ k) (k1 : k ≤ 39)
    (g0 : ∀ x1 : Int32, ∀ z1 : Int, ∀ k1 : Int, x1.toInt = z1 → z1 = l + c + 4294967296 * k1 → ∀ lv2 : List (Nat × Value), m_lk lv2 0 = some (.ref m) → m_lk lv2 1 = some (.int lx1) → m_lk lv2 2 = some (.int x1) → HJ 224 15 lv2 [] h Q)
    : HJ 224 13 lv [.int sx1, .int sx0] h Q := by
  refine hM_addq rfl sq0 sq1 rfl (fun x1 z1 k1 q1 c1 => ?_) -- 13
  refine hM_si (k := 2) rfl (by decide +kernel) rfl (fun lv2 e2_2 u2 => ?_) -- 14
  have e2_0 := u2 0 _ (by decide) (Or.inl rfl) e0
  have e2_1 := u2 1 _ (by decide) (Or.inl rfl) e1
  exact g0 x1 z1 k1 q1 c1 lv2 e2_0 e2_1 e2_2
theorem s_pd15 {k s : Int} (M : MX 49 W ρ m A h0 h F V G) (e0 : m_lk lv 0 = some (.ref m)) {lx1 : Int32} (e1 : m_lk lv 1 = some (.int lx1)) (lq1 : lx1.toInt = k) {lx2 : Int32} (e2 : m_lk lv 2 = some (.int lx2)) (lq2 : lx2.toInt = s) (k0 : 0 ≤ k) (k1 : k ≤ 39)
    (g0 : ∀ x7 : Int32, x7.toInt = V 39 (k + 1).toNat → (-1) ≤ V 39 (k + 1).toNat → V 39 (k + 1).toNat ≤ 40 → V 39 (k + 1).toNat ≠ (-1) → HJ 225 0 (lv_args 0 [.ref m, .int x7]) [] h (fun v h' => HJ 224 44 lv (v.toList ++ [.int lx2]) h' Q))
    (g1 : ∀ x9 : Int32, ∀ z9 : Int, ∀ k9 : Int, x9.toInt = z9 → z9 = s - 0 + 4294967296 * k9 → ∀ lv10 : List (Nat × Value), m_lk lv10 0 = some (.ref m) → m_lk lv10 1 = some (.int lx1) → m_lk lv10 2 = some (.int x9) → (-1) ≤ V 39 (k + 1).toNat → V 39 (k + 1).toNat ≤ 40 → V 39 (k + 1).toNat = (-1) → HJ 224 46 lv10 [] h Q)
    : HJ 224 15 lv [] h Q := by
  refine hI_il (k := 2) rfl e2 rfl ?_ -- 15
  refine hI_al (k := 0) rfl e0 rfl ?_ -- 16
  refine hM_ga M (by decide) rfl rfl (k := 39) (c := 9) rfl rfl rfl (by decide +kernel) rfl ?_ -- 17
  refine hI_il (k := 1) rfl e1 rfl ?_ -- 20
  refine hM_ic (n := 1) rfl (by decide) rfl (fun x1 q1 => ?_) -- 21
  refine hM_add rfl lq1 q1 (by omega) (by omega) rfl (fun x2 q2 => ?_) -- 22
  refine hM_ia M (by decide) (K := 39) (R2 := 74) (L := 41) (H := 41) (lo := (-1)) (hi := 40) rfl (by decide) rfl rfl (fun _ => rfl) rfl q2 (by omega) (by omega) rfl (fun x3 q3 a3 b3 => ?_) -- 23
  refine hM_ic (n := (-1)) rfl (by decide) rfl (fun x4 q4 => ?_) -- 24
  refine hM_cne (off := 7) (t := 32) rfl q3 q4 (by decide) rfl (fun c25 => ?_) (fun c25 => ?_) -- 25
  · refine hI_al (k := 0) rfl e0 rfl ?_ -- 32
    refine hI_al (k := 0) rfl e0 rfl ?_ -- 33
    refine hM_ga M (by decide) rfl rfl (k := 39) (c := 9) rfl rfl rfl (by decide +kernel) rfl ?_ -- 34
    refine hI_il (k := 1) rfl e1 rfl ?_ -- 37
    refine hM_ic (n := 1) rfl (by decide) rfl (fun x5 q5 => ?_) -- 38
    refine hM_add rfl lq1 q5 (by omega) (by omega) rfl (fun x6 q6 => ?_) -- 39
    refine hM_ia M (by decide) (K := 39) (R2 := 74) (L := 41) (H := 41) (lo := (-1)) (hi := 40) rfl (by decide) rfl rfl (fun _ => rfl) rfl q6 (by omega) (by omega) rfl (fun x7 q7 a7 b7 => ?_) -- 40
    refine hM_iv M (by decide) rfl rfl (by decide) (as := [.int x7]) (r := [.int lx2]) rfl rfl (by decide +kernel) rfl (by decide +kernel) rfl rfl rfl rfl rfl ?_ -- 41
    exact g0 x7 q7 a3 b3 c25
  · refine hM_ic (n := 0) rfl (by decide) rfl (fun x8 q8 => ?_) -- 28
    refine hI_go (pc' := 44) (off := 15) rfl (by decide) ?_ -- 29
    refine hM_subq rfl lq2 q8 rfl (fun x9 z9 k9 q9 c9 => ?_) -- 44
    refine hM_si (k := 2) rfl (by decide +kernel) rfl (fun lv10 e10_2 u10 => ?_) -- 45
    have e10_0 := u10 0 _ (by decide) (Or.inl rfl) e0
    have e10_1 := u10 1 _ (by decide) (Or.inl rfl) e1
    exact g1 x9 z9 k9 q9 c9 lv10 e10_0 e10_1 e10_2 a3 b3 c25
theorem s_pd44 {k w s c : Int} (M : MX 49 W ρ m A h0 h F V G) (e0 : m_lk lv 0 = some (.ref m)) {lx1 : Int32} (e1 : m_lk lv 1 = some (.int lx1)) (lq1 : lx1.toInt = k) {lx2 : Int32} (e2 : m_lk lv 2 = some (.int lx2)) (lq2 : lx2.toInt = w) {sx0 : Int32} (sq0 : sx0.toInt = s) {sx1 : Int32} (sq1 : sx1.toInt = c) (k0 : 0 ≤ k) (k1 : k ≤ 39)
    (g0 : ∀ x1 : Int32, ∀ z1 : Int, ∀ k1 : Int, x1.toInt = z1 → z1 = s - c + 4294967296 * k1 → ∀ lv2 : List (Nat × Value), m_lk lv2 0 = some (.ref m) → m_lk lv2 1 = some (.int lx1) → m_lk lv2 2 = some (.int x1) → HJ 224 46 lv2 [] h Q)
    : HJ 224 44 lv [.int sx1, .int sx0] h Q := by
  refine hM_subq rfl sq0 sq1 rfl (fun x1 z1 k1 q1 c1 => ?_) -- 44
  refine hM_si (k := 2) rfl (by decide +kernel) rfl (fun lv2 e2_2 u2 => ?_) -- 45
  have e2_0 := u2 0 _ (by decide) (Or.inl rfl) e0
  have e2_1 := u2 1 _ (by decide) (Or.inl rfl) e1
  exact g0 x1 z1 k1 q1 c1 lv2 e2_0 e2_1 e2_2
theorem s_pd46 {k s : Int} (M : MX 49 W ρ m A h0 h F V G) (e0 : m_lk lv 0 = some (.ref m)) {lx1 : Int32} (e1 : m_lk lv 1 = some (.int lx1)) (lq1 : lx1.toInt = k) {lx2 : Int32} (e2 : m_lk lv 2 = some (.int lx2)) (lq2 : lx2.toInt = s) (k0 : 0 ≤ k) (k1 : k ≤ 39)
    (g0 : ∀ x7 : Int32, x7.toInt = V 40 (k + 1).toNat → (-1) ≤ V 40 (k + 1).toNat → V 40 (k + 1).toNat ≤ 40 → V 40 (k + 1).toNat ≠ (-1) → HJ 225 0 (lv_args 0 [.ref m, .int x7]) [] h (fun v h' => HJ 224 75 lv (v.toList ++ [.int lx2]) h' Q))
    (g1 : ∀ x9 : Int32, ∀ z9 : Int, ∀ k9 : Int, x9.toInt = z9 → z9 = s - 0 + 4294967296 * k9 → ∀ lv10 : List (Nat × Value), m_lk lv10 0 = some (.ref m) → m_lk lv10 1 = some (.int lx1) → m_lk lv10 2 = some (.int x9) → (-1) ≤ V 40 (k + 1).toNat → V 40 (k + 1).toNat ≤ 40 → V 40 (k + 1).toNat = (-1) → HJ 224 77 lv10 [] h Q)
    : HJ 224 46 lv [] h Q := by
  refine hI_il (k := 2) rfl e2 rfl ?_ -- 46
  refine hI_al (k := 0) rfl e0 rfl ?_ -- 47
  refine hM_ga M (by decide) rfl rfl (k := 40) (c := 9) rfl rfl rfl (by decide +kernel) rfl ?_ -- 48
  refine hI_il (k := 1) rfl e1 rfl ?_ -- 51
  refine hM_ic (n := 1) rfl (by decide) rfl (fun x1 q1 => ?_) -- 52
  refine hM_add rfl lq1 q1 (by omega) (by omega) rfl (fun x2 q2 => ?_) -- 53
  refine hM_ia M (by decide) (K := 40) (R2 := 75) (L := 41) (H := 41) (lo := (-1)) (hi := 40) rfl (by decide) rfl rfl (fun _ => rfl) rfl q2 (by omega) (by omega) rfl (fun x3 q3 a3 b3 => ?_) -- 54
  refine hM_ic (n := (-1)) rfl (by decide) rfl (fun x4 q4 => ?_) -- 55
  refine hM_cne (off := 7) (t := 63) rfl q3 q4 (by decide) rfl (fun c56 => ?_) (fun c56 => ?_) -- 56
  · refine hI_al (k := 0) rfl e0 rfl ?_ -- 63
    refine hI_al (k := 0) rfl e0 rfl ?_ -- 64
    refine hM_ga M (by decide) rfl rfl (k := 40) (c := 9) rfl rfl rfl (by decide +kernel) rfl ?_ -- 65
    refine hI_il (k := 1) rfl e1 rfl ?_ -- 68
    refine hM_ic (n := 1) rfl (by decide) rfl (fun x5 q5 => ?_) -- 69
    refine hM_add rfl lq1 q5 (by omega) (by omega) rfl (fun x6 q6 => ?_) -- 70
    refine hM_ia M (by decide) (K := 40) (R2 := 75) (L := 41) (H := 41) (lo := (-1)) (hi := 40) rfl (by decide) rfl rfl (fun _ => rfl) rfl q6 (by omega) (by omega) rfl (fun x7 q7 a7 b7 => ?_) -- 71
    refine hM_iv M (by decide) rfl rfl (by decide) (as := [.int x7]) (r := [.int lx2]) rfl rfl (by decide +kernel) rfl (by decide +kernel) rfl rfl rfl rfl rfl ?_ -- 72
    exact g0 x7 q7 a3 b3 c56
  · refine hM_ic (n := 0) rfl (by decide) rfl (fun x8 q8 => ?_) -- 59
    refine hI_go (pc' := 75) (off := 15) rfl (by decide) ?_ -- 60
    refine hM_subq rfl lq2 q8 rfl (fun x9 z9 k9 q9 c9 => ?_) -- 75
    refine hM_si (k := 2) rfl (by decide +kernel) rfl (fun lv10 e10_2 u10 => ?_) -- 76
    have e10_0 := u10 0 _ (by decide) (Or.inl rfl) e0
    have e10_1 := u10 1 _ (by decide) (Or.inl rfl) e1
    exact g1 x9 z9 k9 q9 c9 lv10 e10_0 e10_1 e10_2 a3 b3 c56
theorem s_pd75 {k w s c : Int} (M : MX 49 W ρ m A h0 h F V G) (e0 : m_lk lv 0 = some (.ref m)) {lx1 : Int32} (e1 : m_lk lv 1 = some (.int lx1)) (lq1 : lx1.toInt = k) {lx2 : Int32} (e2 : m_lk lv 2 = some (.int lx2)) (lq2 : lx2.toInt = w) {sx0 : Int32} (sq0 : sx0.toInt = s) {sx1 : Int32} (sq1 : sx1.toInt = c) (k0 : 0 ≤ k) (k1 : k ≤ 39)
    (g0 : ∀ x1 : Int32, ∀ z1 : Int, ∀ k1 : Int, x1.toInt = z1 → z1 = s - c + 4294967296 * k1 → ∀ lv2 : List (Nat × Value), m_lk lv2 0 = some (.ref m) → m_lk lv2 1 = some (.int lx1) → m_lk lv2 2 = some (.int x1) → HJ 224 77 lv2 [] h Q)
    : HJ 224 75 lv [.int sx1, .int sx0] h Q := by
  refine hM_subq rfl sq0 sq1 rfl (fun x1 z1 k1 q1 c1 => ?_) -- 75
  refine hM_si (k := 2) rfl (by decide +kernel) rfl (fun lv2 e2_2 u2 => ?_) -- 76
  have e2_0 := u2 0 _ (by decide) (Or.inl rfl) e0
  have e2_1 := u2 1 _ (by decide) (Or.inl rfl) e1
  exact g0 x1 z1 k1 q1 c1 lv2 e2_0 e2_1 e2_2
theorem s_pd77 {k s : Int} (M : MX 49 W ρ m A h0 h F V G) (e0 : m_lk lv 0 = some (.ref m)) {lx1 : Int32} (e1 : m_lk lv 1 = some (.int lx1)) (lq1 : lx1.toInt = k) {lx2 : Int32} (e2 : m_lk lv 2 = some (.int lx2)) (lq2 : lx2.toInt = s) 
    (g0 : Q (some (.int lx2)) h)
    : HJ 224 77 lv [] h Q := by
  refine hI_il (k := 2) rfl e2 rfl ?_ -- 77
  refine hI_ri rfl rfl ?_ -- 78
  exact g0 
theorem l_mcr {v : Int} {xv : Int32} (M : MX 49 W ρ m A h0 h F V G) (qv : xv.toInt = v) (v0 : 0 ≤ v) (v40 : v ≤ 40) (g : ∀ x : Int32, x.toInt = (y_sm (fun r => V 36 (6 * v.toNat + r)) 6 : Int) → Q (some (.int x)) h) : ∀ (d r : Nat) (lv : List (Nat × Value)) (xn xr : Int32), r + d = 6 → xn.toInt = (y_sm (fun r => V 36 (6 * v.toNat + r)) r : Int) → y_sm (fun r => V 36 (6 * v.toNat + r)) r ≤ r → xr.toInt = (r : Int) → m_lk lv 0 = some (.ref m) → m_lk lv 1 = some (.int xv) → m_lk lv 2 = some (.int xn) → m_lk lv 3 = some (.int xr) → HJ 225 4 lv [] h Q := by
  intro d
  induction d with
  | zero =>
    intro r lv xn xr hd qn bn qr e0 e1 e2 e3
    have er : r = 6 := by omega
    subst er
    exact s_cd4 M e0 e1 qv e2 qn e3 qr v0 v40 (by omega) (by omega) (by omega) (fun _ => g xn qn) (fun _ _ _ _ _ _ _ _ _ c => absurd c (by omega)) (fun _ _ _ _ _ _ _ _ _ c => absurd c (by omega))
  | succ d ih =>
    intro r lv xn xr hd qn bn qr e0 e1 e2 e3
    have ej : (6 * v + (r : Int)).toNat = 6 * v.toNat + r := by omega
    refine s_cd4 M e0 e1 qv e2 qn e3 qr v0 v40 (by omega) (by omega) (by omega) (fun c => absurd c (by omega)) (fun x8 q8 x10 q10 lv1 a0 a1 a2 a3 _ _ _ c => ?_) (fun x8 q8 x10 q10 lv1 a0 a1 a2 a3 _ _ _ c => ?_)
    · rw [ej] at c
      have e : y_sm (fun r => V 36 (6 * v.toNat + r)) (r + 1) = y_sm (fun r => V 36 (6 * v.toNat + r)) r + 1 := by
        rw [y_sm, y_tg1 c]
      exact ih (r + 1) lv1 x8 x10 (by omega) (by rw [e]; omega) (by rw [e]; omega) (by omega) a0 a1 a2 a3
    · rw [ej] at c
      have e : y_sm (fun r => V 36 (6 * v.toNat + r)) (r + 1) = y_sm (fun r => V 36 (6 * v.toNat + r)) r := by
        rw [y_sm, y_tg0 c, Nat.add_zero]
      exact ih (r + 1) lv1 x8 x10 (by omega) (by rw [e]; omega) (by rw [e]; omega) (by omega) a0 a1 a2 a3
theorem c_mcr {v : Int} {xv : Int32} (M : MX 49 W ρ m A h0 h F V G) (qv : xv.toInt = v) (v0 : 0 ≤ v) (v40 : v ≤ 40) (g : ∀ x : Int32, x.toInt = (y_sm (fun r => V 36 (6 * v.toNat + r)) 6 : Int) → Q (some (.int x)) h) : HJ 225 0 (lv_args 0 [.ref m, .int xv]) [] h Q :=
  s_cd0 M rfl rfl qv (fun x1 q1 x3 q3 lv a0 a1 a2 a3 => l_mcr M qv v0 v40 g 6 0 lv x1 x3 rfl q1 (Nat.le_refl _) q3 a0 a1 a2 a3)
def cr_V (V : Nat → Nat → Int) (v : Int) : Int := if v = -1 then 0 else (y_sm (fun r => V 36 (6 * v.toNat + r)) 6 : Int)
theorem c_mpaid {k : Int} {xk : Int32} (M : MX 49 W ρ m A h0 h F V G) (qk : xk.toInt = k) (k0 : 0 ≤ k) (k39 : k ≤ 39) (g : ∀ (x : Int32) (w : Int), x.toInt = V 38 k.toNat + (y_sm (fun r => V 36 (6 * (k + 1).toNat + r)) 6 : Int) - cr_V V (V 39 (k + 1).toNat) - cr_V V (V 40 (k + 1).toNat) + 4294967296 * w → Q (some (.int x)) h) : HJ 224 0 (lv_args 0 [.ref m, .int xk]) [] h Q := by
  refine s_pd0 M rfl rfl qk k0 k39 (fun x1 q1 x3 q3 => c_mcr M q3 (by omega) (by omega) (fun xc qc => ?_))
  show HJ 224 13 _ [.int xc, .int x1] h Q
  have last : ∀ (lv : List (Nat × Value)) (x : Int32) (s w : Int), x.toInt = s → s = V 38 k.toNat + (y_sm (fun r => V 36 (6 * (k + 1).toNat + r)) 6 : Int) - cr_V V (V 39 (k + 1).toNat) - cr_V V (V 40 (k + 1).toNat) + 4294967296 * w → m_lk lv 0 = some (.ref m) → m_lk lv 1 = some (.int xk) → m_lk lv 2 = some (.int x) → HJ 224 77 lv [] h Q := fun lv x s w q e a0 a1 a2 => s_pd77 M a0 a1 qk a2 q (g x w (by rw [q, e]))
  have mid : ∀ (lv : List (Nat × Value)) (x : Int32) (s w : Int), x.toInt = s → s = V 38 k.toNat + (y_sm (fun r => V 36 (6 * (k + 1).toNat + r)) 6 : Int) - cr_V V (V 39 (k + 1).toNat) + 4294967296 * w → m_lk lv 0 = some (.ref m) → m_lk lv 1 = some (.int xk) → m_lk lv 2 = some (.int x) → HJ 224 46 lv [] h Q := fun lv x s w q e a0 a1 a2 => by
    refine s_pd46 M a0 a1 qk a2 q k0 k39 (fun x7 q7 l7 u7 c => ?_) (fun x9 z9 w9 q9 c9 lv1 b0 b1 b2 _ _ c => ?_)
    · refine c_mcr M q7 (by omega) u7 (fun xd qd => ?_)
      show HJ 224 75 lv [.int xd, .int x] h Q
      refine s_pd75 M a0 a1 qk a2 q q qd k0 k39 (fun y z w2 qz cz lv1 b0 b1 b2 => last lv1 y z (w + w2) qz ?_ b0 b1 b2)
      have e3 : cr_V V (V 40 (k + 1).toNat) = (y_sm (fun r => V 36 (6 * (V 40 (k + 1).toNat).toNat + r)) 6 : Int) := if_neg c
      rw [cz, e, e3]
      omega
    · refine last lv1 x9 z9 (w + w9) q9 ?_ b0 b1 b2
      have e3 : cr_V V (V 40 (k + 1).toNat) = 0 := if_pos c
      rw [c9, e, e3]
      omega
  refine s_pd13 M rfl rfl qk q1 qc k0 k39 (fun x z w q c lv a0 a1 a2 => ?_)
  refine s_pd15 M a0 a1 qk a2 q k0 k39 (fun x7 q7 l7 u7 c7 => ?_) (fun x9 z9 w9 q9 c9 lv1 b0 b1 b2 _ _ c8 => ?_)
  · refine c_mcr M q7 (by omega) u7 (fun xd qd => ?_)
    show HJ 224 44 lv [.int xd, .int x] h Q
    refine s_pd44 M a0 a1 qk a2 q q qd k0 k39 (fun y z2 w2 qz cz lv1 b0 b1 b2 => mid lv1 y z2 (w + w2) qz ?_ b0 b1 b2)
    have e3 : cr_V V (V 39 (k + 1).toNat) = (y_sm (fun r => V 36 (6 * (V 39 (k + 1).toNat).toNat + r)) 6 : Int) := if_neg c7
    rw [cz, c, e3]
    omega
  · refine mid lv1 x9 z9 (w + w9) q9 ?_ b0 b1 b2
    have e3 : cr_V V (V 39 (k + 1).toNat) = 0 := if_pos c8
    rw [c9, c, e3]
    omega
end
-- the reference's books of a laid row
theorem di_rf {Y : RYt} {F : Nat → Int} {V : Nat → Nat → Int} {k n : Nat} {w x : Int} (y : ry_of F V (ry_z Y)) (o : ry_ok Y n) (hk : k + 1 < ry_v Y) (e : x = V 38 k + (y_sm (fun r => V 36 (6 * (((k : Int) + 1).toNat) + r)) 6 : Int) - cr_V V (V 39 ((k : Int) + 1).toNat) - cr_V V (V 40 ((k : Int) + 1).toNat) + 4294967296 * w) : x = ry_pd Y k + 4294967296 * w := by
  obtain ⟨-, -, -, y36, y39, y37⟩ := y
  have y36 : ∀ j, j < 6 * ry_v Y → V 36 j = ry_r Y j := y36
  have y39 : ∀ v, v < ry_v Y → V 39 v = ry_a Y v ∧ V 40 v = ry_b Y v := y39
  have y37 : ∀ k, k + 1 < ry_v Y → V 37 k = ry_m Y k ∧ V 38 k = ry_l Y k := y37
  have k1 : ((k : Int) + 1).toNat = k + 1 := by omega
  have sm : ∀ v : Int, 0 ≤ v → v < (ry_v Y : Int) → y_sm (fun r => V 36 (6 * v.toNat + r)) 6 = p_bc (p_ws (ry_h Y v) 6) := fun v v0 v1 => by
    rw [y_smP]
    exact y_smC (fun j hj => y36 _ (by omega))
  have cr : ∀ v : Int, -1 ≤ v → v < (ry_v Y : Int) → cr_V V v = cr_of Y v := fun v v0 v1 => by
    unfold cr_V cr_of
    by_cases c : v = -1
    · rw [if_pos c, if_pos c]
    · rw [if_neg c, if_neg c, sm v (by omega) v1]
  obtain ⟨⟨a0, a1⟩, b0, b1⟩ := o.2.2 (k + 1) hk
  obtain ⟨e39, e40⟩ := y39 (k + 1) hk
  have s1 := sm ((k + 1 : Nat) : Int) (by omega) (by omega)
  rw [Int.toNat_natCast] at s1
  rw [e, k1, (y37 k hk).2, e39, e40, cr _ a0 (by omega), cr _ b0 (by omega), s1]
  rfl
-- bits of a long
def bs (x : Int64) (v : Nat) : Bool := x.toBitVec.getLsbD v
theorem bs_has {x : Int64} {v : Nat} (hv : v ≤ 40) : ((x >>> ((Int32.ofInt (v : Int)).toInt64 &&& 63)) &&& (Int64.ofNat (1 : Fin 2).val) = Int64.ofNat (1 : Fin 2).val) ↔ bs x v = true := by
  have e2 := z_shF ⟨v, by omega⟩
  dsimp only at e2
  have e3 : (x >>> ((Int32.ofInt (v : Int)).toInt64 &&& 63)).toBitVec = x.toBitVec.sshiftRight v := by
    rw [Int64.toBitVec_shiftRight]
    show x.toBitVec.sshiftRight' (((Int32.ofInt (v : Int)).toInt64 &&& 63).toBitVec.smod (BitVec.ofNat 64 64)) = _
    rw [e2]
    show x.toBitVec.sshiftRight (BitVec.ofNat 64 v).toNat = _
    rw [BitVec.toNat_ofNat, Nat.mod_eq_of_lt (by omega)]
  constructor
  · intro h
    have q := congrArg (fun z : Int64 => z.toBitVec.getLsbD 0) h
    rw [Int64.toBitVec_and, e3] at q
    have q : (x.toBitVec.sshiftRight v &&& 1#64).getLsbD 0 = (1#64).getLsbD 0 := q
    rw [BitVec.getLsbD_and, BitVec.getLsbD_one, BitVec.getLsbD_sshiftRight] at q
    show x.toBitVec.getLsbD v = true
    simpa [show v < 64 by omega] using q
  · intro hb
    have hb : x.toBitVec.getLsbD v = true := hb
    apply Int64.toBitVec_inj.1
    rw [Int64.toBitVec_and, e3]
    show x.toBitVec.sshiftRight v &&& 1#64 = 1#64
    apply BitVec.eq_of_getLsbD_eq
    intro i hi
    rw [BitVec.getLsbD_and, BitVec.getLsbD_one]
    by_cases e : i = 0
    · subst e
      rw [BitVec.getLsbD_sshiftRight]
      simp [hb, show v < 64 by omega]
    · simp [e]
theorem bt_B {v : Nat} (hv : v ≤ 40) : (bt (v : Int)).toBitVec = (1#64 <<< v) := z_bitF ⟨v, by omega⟩
theorem bs_nz {x : Int64} {v : Nat} (hv : v ≤ 40) : x &&& bt (v : Int) = 0 ↔ bs x v = false := by
  constructor
  · intro h
    have q := congrArg (fun z : Int64 => z.toBitVec.getLsbD v) h
    rw [Int64.toBitVec_and, bt_B hv] at q
    have q : (x.toBitVec &&& 1#64 <<< v).getLsbD v = (0#64).getLsbD v := q
    rw [BitVec.getLsbD_and, BitVec.getLsbD_shiftLeft, BitVec.getLsbD_one, BitVec.getLsbD_zero] at q
    show x.toBitVec.getLsbD v = false
    simpa [show v < 64 by omega] using q
  · intro hb
    have hb : x.toBitVec.getLsbD v = false := hb
    apply Int64.toBitVec_inj.1
    rw [Int64.toBitVec_and, bt_B hv]
    show x.toBitVec &&& (1#64 <<< v) = 0#64
    apply BitVec.eq_of_getLsbD_eq
    intro i hi
    rw [BitVec.getLsbD_and, BitVec.getLsbD_shiftLeft, BitVec.getLsbD_one, BitVec.getLsbD_zero]
    by_cases e : i = v
    · subst e
      simp [hb]
    · by_cases e2 : i < v
      · simp [e2]
      · simp [show i - v ≠ 0 by omega]
theorem bs_or (x y : Int64) (v : Nat) : bs (x ||| y) v = (bs x v || bs y v) := by
  unfold bs
  rw [Int64.toBitVec_or, BitVec.getLsbD_or]
theorem bs_and (x y : Int64) (v : Nat) : bs (x &&& y) v = (bs x v && bs y v) := by
  unfold bs
  rw [Int64.toBitVec_and, BitVec.getLsbD_and]
theorem bs_bt {v w : Nat} (hv : v ≤ 40) (hw : w < 64) : bs (bt (v : Int)) w = decide (w = v) := by
  unfold bs
  rw [bt_B hv, BitVec.getLsbD_shiftLeft, BitVec.getLsbD_one]
  by_cases e : w = v
  · subst e
    simp [hw]
  · by_cases e2 : w < v
    · simp [e2, e]
    · simp [show w - v ≠ 0 by omega, e]
theorem bs_0 (v : Nat) : bs (Int64.ofNat (0 : Fin 2).val) v = false := by
  show (0#64).getLsbD v = false
  exact BitVec.getLsbD_zero
-- from which versions: one row alone
theorem fro_U {Y : RYt} {n : Nat} {L L' : Nat → Int64} (o : ry_ok Y n) (a : fro_of L Y) (b : fro_of L' Y) : ∀ v : Nat, v < ry_v Y → L v = L' v := by
  intro v
  induction v using Nat.strongRecOn with
  | ind v ih =>
    intro hv
    rw [a v hv, b v hv]
    obtain ⟨⟨a0, a1⟩, b0, b1⟩ := o.2.2 v hv
    have f : ∀ p : Int, -1 ≤ p → p < (v : Int) → fo_of L p = fo_of L' p := fun p p0 p1 => by
      unfold fo_of
      split
      · exact ih _ (by omega) (by omega)
      · rfl
    rw [f _ a0 a1, f _ b0 b1]
theorem fro_B {Y : RYt} {n : Nat} {L : Nat → Int64} (o : ry_ok Y n) (n40 : n ≤ 40) (a : fro_of L Y) {w : Nat} (hw : w < 64) : ∀ v : Nat, v < ry_v Y → v < w → bs (L v) w = false := by
  intro v
  have vn := o.2.1.1
  induction v using Nat.strongRecOn with
  | ind v ih =>
    intro hv vw
    obtain ⟨⟨a0, a1⟩, b0, b1⟩ := o.2.2 v hv
    have f : ∀ p : Int, -1 ≤ p → p < (v : Int) → bs (fo_of L p) w = false := fun p p0 p1 => by
      unfold fo_of
      split
      · exact ih _ (by omega) (by omega) (by omega)
      · exact bs_0 w
    rw [a v hv, bs_or, bs_or, bs_bt (by omega) hw, f _ a0 a1, f _ b0 b1, decide_eq_false (by omega)]
    rfl
-- a row laid, and what is told of it
def lay_ok (V5 : Int) (V6 : Nat → Int) (r : Int) (Y : RYt) : Prop := 0 ≤ r → r < V5 → (∃ n, n ≤ 40 ∧ ry_ok Y n) ∧ (∀ F' V', ly_E (fun j => V6 (161 * r.toNat + 1 + j)) (V6 (161 * r).toNat).toNat F' V' → ry_of (m_u F' 19 0) V' (ry_z Y)) ∧ ∀ L, ly_H (fun j => V6 (161 * r.toNat + 1 + j)) (V6 (161 * r).toNat).toNat L (V6 (161 * r).toNat).toNat → fro_of L Y
def laid (Y : RYt) (F : Nat → Int) (V : Nat → Nat → Int) (G : Nat → Nat → Int64) : Prop := (∃ n, n ≤ 40 ∧ ry_ok Y n) ∧ ry_of (m_u F 19 0) V (ry_z Y) ∧ fro_of (G 41) Y ∧ g_ly F V 40
theorem laid_v {Y : RYt} {F : Nat → Int} {V : Nat → Nat → Int} {G : Nat → Nat → Int64} (l : laid Y F V G) : F 35 = (ry_v Y : Int) ∧ 1 ≤ ry_v Y ∧ ry_v Y ≤ 41 := by
  obtain ⟨⟨n, n40, o⟩, y, -, -⟩ := l
  have y3 : m_u F 19 0 35 = (ry_v Y : Int) := y.2.2.1
  rw [m_uN _ _ _ _ (by decide)] at y3
  have vn := o.2.1.1
  exact ⟨y3, by omega, by omega⟩
theorem ly_acG {ρ : Nat → Nat} {h : MH} {m : Nat} {VV : Nat → Nat → Int} {r : Int} (ht : TH c_sp ρ h) (n15 : c_PT 15 ρ h) (rN : td_rel h (h_r h 16 0) m 0) (vq5 : VV 5 0 = q_vm h m 5 0) (vq6 : ∀ j, VV 6 j = q_vm h m 6 j) : lay_ok (VV 5 0) (VV 6) r (ac_Y h (q_ac h (h_r h 16 0) r.toNat)) := fun r0 r1 => by
  obtain ⟨⟨-, -, -, f5⟩, -, ra⟩ := rN
  have fN := nw_ob ht n15.1
  have b5 := (td_bdN ht fN).2.1
  have e5 : q_fd h (h_r h 16 0) 5 = VV 5 0 := f5.trans vq5.symm
  have rr : (r.toNat : Int) < q_fd h (h_r h 16 0) 5 := by omega
  have oc := ((td_obN ht fN).2.2 r.toNat (by omega)).1
  have c := (t_spec ht (by decide) (rfl : c_sp[12]? = some _) oc).2.2.2 2 (.inl (0, 40)) rfl (fun z => by cases z)
  have c0 : 0 ≤ q_fd h (q_ac h (h_r h 16 0) r.toNat) 2 ∧ q_fd h (q_ac h (h_r h 16 0) r.toNat) 2 ≤ 40 := c
  have av := n15.2.2.2.1 r.toNat rr
  obtain ⟨w1, w2⟩ := ac_ref (ra r.toNat rr) c0.1 av
  have eU : ∀ j, VV 6 (161 * r.toNat + 1 + j) = q_vm h m 6 (644 * 0 + 161 * r.toNat + 1 + j) := fun j => by
    rw [show 644 * 0 + 161 * r.toNat + 1 + j = 161 * r.toNat + 1 + j by omega]
    exact vq6 _
  have eB : VV 6 (161 * r).toNat = q_vm h m 6 (644 * 0 + 161 * r.toNat) := by
    rw [show 644 * 0 + 161 * r.toNat = (161 * r).toNat by omega]
    exact vq6 _
  refine ⟨?_, fun F' V' b3 => ?_, fun L b3 => ?_⟩
  · obtain ⟨k, k1, k2, -⟩ := ry_okR (ac_N h (q_ac h (h_r h 16 0) r.toNat)) (fun k hk => av k (by unfold ac_N at hk; omega))
    have : ac_N h (q_ac h (h_r h 16 0) r.toNat) ≤ 40 := by
      unfold ac_N
      omega
    exact ⟨k, by omega, k2⟩
  · unfold ly_E at b3
    simp only [eU, eB] at b3
    have b4 := b3 (fun q hq => w2 q hq)
    rw [w1] at b4
    exact b4
  · unfold ly_H at b3
    simp only [eU, eB] at b3
    have b4 := (b3 (fun q hq => w2 q hq)).2
    rw [w1] at b4
    exact b4
section
variable {lv : List (Nat × Value)} {Q : Option Value → MH → Prop} {W : List (Nat × Nat)} {ρ : Nat → Nat} {m : Nat} {A : Nat → Nat} {h0 h : MH} {F : Nat → Int} {V : Nat → Nat → Int} {G : Nat → Nat → Int64}
theorem c_layY {Y : RYt} {r : Int} {xr : Int32} (M : MX 49 W ρ m A h0 h F V G) (b0_ : m_lk lv 0 = some (.ref m)) (b1_ : m_lk lv 1 = some (.int xr)) (hw : d_sub g_la W = true) (qr : xr.toInt = r) (rw_ : p_rw (V 6)) (ok : lay_ok (V 5 0) (V 6) r Y) (g : ∀ (x : Int32) (h' : MH) (F' : Nat → Int) (V' : Nat → Nat → Int) (G' : Nat → Nat → Int64), MX 49 W ρ m A h0 h' F' V' G' → ((x.toInt = 0 ∧ ¬ (0 ≤ r ∧ r < V 5 0)) ∨ (x.toInt = 1 ∧ (0 ≤ r ∧ r < V 5 0) ∧ laid Y F' V' G')) → Q (some (.int x)) h') : HJ 201 0 lv [] h Q := by
  refine c_layG M b0_ b1_ hw qr rw_ (fun x h' F' V' G' M' hx => g x h' F' V' G' M' ?_)
  rcases hx with hx | ⟨q, I, r0, r1, e1, e2⟩
  · exact Or.inl hx
  · obtain ⟨o, k1, k2⟩ := ok r0 r1
    exact Or.inr ⟨q, ⟨r0, r1⟩, o, k1 F' V' e1, k2 _ e2, I⟩
theorem s_lo0 {r v : Int} (M : MX 49 W ρ m A h0 h F V G) (e0 : m_lk lv 0 = some (.ref m)) {lx1 : Int32} (e1 : m_lk lv 1 = some (.int lx1)) (lq1 : lx1.toInt = r) {lx2 : Int32} (e2 : m_lk lv 2 = some (.int lx2)) (lq2 : lx2.toInt = v) 
    (g0 : HJ 201 0 (lv_args 0 [.ref m, .int lx1]) [] h (fun v h' => HJ 228 5 lv (v.toList ++ []) h' Q))
    : HJ 228 0 lv [] h Q := by
  refine hI_al (k := 0) rfl e0 rfl ?_ -- 0
  refine hI_il (k := 1) rfl e1 rfl ?_ -- 1
  refine hM_iv M (by decide) rfl rfl (by decide) (as := [.int lx1]) (r := []) rfl rfl (by decide +kernel) rfl (by decide +kernel) rfl rfl rfl rfl rfl ?_ -- 2
  exact g0 
theorem s_lo5 {r v z : Int} (M : MX 49 W ρ m A h0 h F V G) (e0 : m_lk lv 0 = some (.ref m)) {lx1 : Int32} (e1 : m_lk lv 1 = some (.int lx1)) (lq1 : lx1.toInt = r) {lx2 : Int32} (e2 : m_lk lv 2 = some (.int lx2)) (lq2 : lx2.toInt = v) {sx0 : Int32} (sq0 : sx0.toInt = z) 
    (g0 : ∀ x1 : Int32, x1.toInt = 0 → z = 0 → Q (some (.int x1)) h)
    (g1 : z ≠ 0 → HJ 205 0 (lv_args 0 [.ref m, .int lx2]) [] h (fun v h' => HJ 228 13 lv (v.toList ++ []) h' Q))
    : HJ 228 5 lv [.int sx0] h Q := by
  refine hM_zeq (off := 15) (t := 20) rfl sq0 (by decide) rfl (fun c5 => ?_) (fun c5 => ?_) -- 5
  · refine hM_ic (n := 0) rfl (by decide) rfl (fun x1 q1 => ?_) -- 20
    refine hM_rb rfl rfl q1 (by omega) (by omega) ?_ -- 21
    exact g0 x1 q1 c5
  · refine hI_al (k := 0) rfl e0 rfl ?_ -- 8
    refine hI_il (k := 2) rfl e2 rfl ?_ -- 9
    refine hM_iv M (by decide) rfl rfl (by decide) (as := [.int lx2]) (r := []) rfl rfl (by decide +kernel) rfl (by decide +kernel) rfl rfl rfl rfl rfl ?_ -- 10
    exact g1 c5
theorem s_lo13 {z : Int} (M : MX 49 W ρ m A h0 h F V G) {sx0 : Int32} (sq0 : sx0.toInt = z) 
    (g0 : ∀ x1 : Int32, x1.toInt = 0 → z = 0 → Q (some (.int x1)) h)
    (g1 : ∀ x2 : Int32, x2.toInt = 1 → z ≠ 0 → Q (some (.int x2)) h)
    : HJ 228 13 lv [.int sx0] h Q := by
  refine hM_zeq (off := 7) (t := 20) rfl sq0 (by decide) rfl (fun c13 => ?_) (fun c13 => ?_) -- 13
  · refine hM_ic (n := 0) rfl (by decide) rfl (fun x1 q1 => ?_) -- 20
    refine hM_rb rfl rfl q1 (by omega) (by omega) ?_ -- 21
    exact g0 x1 q1 c13
  · refine hM_ic (n := 1) rfl (by decide) rfl (fun x2 q2 => ?_) -- 16
    refine hI_go (pc' := 21) (off := 4) rfl (by decide) ?_ -- 17
    refine hM_rb rfl rfl q2 (by omega) (by omega) ?_ -- 21
    exact g1 x2 q2 c13
theorem c_layOY {Y : RYt} {r v : Int} {xr xv : Int32} (M : MX 49 W ρ m A h0 h F V G) (hw : d_sub g_la W = true) (qr : xr.toInt = r) (qv : xv.toInt = v) (rw_ : p_rw (V 6)) (ok : lay_ok (V 5 0) (V 6) r Y) (g : ∀ (x : Int32) (h' : MH) (F' : Nat → Int) (V' : Nat → Nat → Int) (G' : Nat → Nat → Int64), MX 49 W ρ m A h0 h' F' V' G' → ((x.toInt = 0 ∧ ¬ ((0 ≤ r ∧ r < V 5 0) ∧ 0 ≤ v ∧ v < (ry_v Y : Int))) ∨ (x.toInt = 1 ∧ ((0 ≤ r ∧ r < V 5 0) ∧ 0 ≤ v ∧ v < (ry_v Y : Int)) ∧ laid Y F' V' G')) → Q (some (.int x)) h') : HJ 228 0 (lv_args 0 [.ref m, .int xr, .int xv]) [] h Q := by
  refine s_lo0 M rfl rfl qr rfl qv (c_layY M rfl rfl hw qr rw_ ok (fun z h2 F2 V2 G2 M2 hz => ?_))
  refine s_lo5 (z := z.toInt) M2 rfl rfl qr rfl qv rfl (fun x q c => g x h2 F2 V2 G2 M2 (Or.inl ⟨q, fun w => ?_⟩)) (fun c5 => ?_)
  · rcases hz with hz | hz
    · exact hz.2 w.1
    · omega
  · obtain ⟨-, rr, l⟩ := hz.resolve_left (fun w => c5 w.1)
    have lv := laid_v l
    refine c_isV M2 qv (fun z2 hz2 => ?_)
    refine s_lo13 (z := z2.toInt) M2 rfl (fun x q c => g x h2 F2 V2 G2 M2 (Or.inl ⟨q, fun w => ?_⟩)) (fun x q c => g x h2 F2 V2 G2 M2 (Or.inr ⟨q, ⟨rr, ?_⟩, l⟩))
    · rcases hz2 with hz2 | hz2 <;> omega
    · rcases hz2 with hz2 | hz2 <;> omega
theorem c_layTY {Y : RYt} {r a b : Int} {xr xa xb : Int32} (M : MX 49 W ρ m A h0 h F V G) (hw : d_sub g_la W = true) (qr : xr.toInt = r) (qa : xa.toInt = a) (qb : xb.toInt = b) (rw_ : p_rw (V 6)) (ok : lay_ok (V 5 0) (V 6) r Y) (g : ∀ (x : Int32) (h' : MH) (F' : Nat → Int) (V' : Nat → Nat → Int) (G' : Nat → Nat → Int64), MX 49 W ρ m A h0 h' F' V' G' → ((x.toInt = 0 ∧ ¬ ((0 ≤ r ∧ r < V 5 0) ∧ (0 ≤ a ∧ a < (ry_v Y : Int)) ∧ 0 ≤ b ∧ b < (ry_v Y : Int))) ∨ (x.toInt = 1 ∧ ((0 ≤ r ∧ r < V 5 0) ∧ (0 ≤ a ∧ a < (ry_v Y : Int)) ∧ 0 ≤ b ∧ b < (ry_v Y : Int)) ∧ laid Y F' V' G')) → Q (some (.int x)) h') : HJ 240 0 (lv_args 0 [.ref m, .int xr, .int xa, .int xb]) [] h Q := by
  refine s_l20 M rfl rfl qr rfl qa rfl qb (c_layY M rfl rfl hw qr rw_ ok (fun z h2 F2 V2 G2 M2 hz => ?_))
  refine s_l25 (z := z.toInt) M2 rfl rfl qr rfl qa rfl qb rfl (fun x q c => g x h2 F2 V2 G2 M2 (Or.inl ⟨q, fun w => ?_⟩)) (fun c5 => ?_)
  · rcases hz with hz | hz
    · exact hz.2 w.1
    · omega
  · obtain ⟨-, rr, l⟩ := hz.resolve_left (fun w => c5 w.1)
    have lv := laid_v l
    refine c_isV M2 qa (fun z2 hz2 => ?_)
    refine s_l213 (z := z2.toInt) M2 rfl rfl qr rfl qa rfl qb rfl (fun x q c => g x h2 F2 V2 G2 M2 (Or.inl ⟨q, fun w => ?_⟩)) (fun c13 => ?_)
    · rcases hz2 with hz2 | hz2 <;> omega
    · obtain ⟨-, a0, a1⟩ := hz2.resolve_right (fun y => c13 y.1)
      refine c_isV M2 qb (fun z3 hz3 => ?_)
      refine s_l221 (z := z3.toInt) M2 rfl (fun x q c => g x h2 F2 V2 G2 M2 (Or.inl ⟨q, fun w => ?_⟩)) (fun x q c => g x h2 F2 V2 G2 M2 (Or.inr ⟨q, ⟨rr, ⟨a0, by omega⟩, ?_⟩, l⟩))
      · rcases hz3 with hz3 | hz3 <;> omega
      · rcases hz3 with hz3 | hz3 <;> omega
end
section
variable {Q : Option Value → MH → Prop} {ρ : Nat → Nat} {h : MH}
-- whether a version comes from another, by the class
theorem k_isf {li : Nat} {v f : Int} {xv xf : Int32} (ok : li_ok h li) (qv : xv.toInt = v) (qf : xf.toInt = f) (v0 : 0 ≤ v) (v1 : v ≤ 40) (f0 : 0 ≤ f) (f1 : f ≤ 40) (g : ∀ x : Int32, x.toInt = (if bs (h_l h (h_r h li 2) v.toNat) f.toNat = true then 1 else 0) → Q (some (.int x)) h) : HJ 131 0 (lv_args 0 [.ref li, .int xv, .int xf]) [] h Q := by
  have M := RX.start h
  refine hI_il (k := 2) rfl rfl rfl ?_
  refine hM_zlt (off := 28) (t := 29) rfl qf (by decide) rfl (fun c => absurd c (by omega)) (fun _ => ?_)
  refine hI_il (k := 2) rfl rfl rfl ?_
  refine hM_bp (n := 41) rfl (by decide) rfl (fun x1 q1 => ?_)
  refine hM_cge (off := 22) (t := 29) rfl qf q1 (by decide) rfl (fun c => absurd c (by omega)) (fun _ => ?_)
  refine hI_al (k := 0) rfl rfl rfl ?_
  refine hI_il (k := 1) rfl rfl rfl ?_
  refine HJ.call (j := 53) (as := [.ref li, .int xv]) (rr := []) (pc' := 15) (m_cR (kc := 1) rfl rfl (by decide +kernel) rfl rfl rfl ⟨rfl, by decide +kernel, by decide +kernel⟩ (by decide) ok.1.2 ok.1.1) (by show 2 ≤ m_lc 53; decide +kernel) ?_
  refine k_fo ok qv ?_
  show HJ 131 15 _ [.long (fo_of (h_l h (h_r h li 2)) v)] h Q
  refine hI_il (k := 2) rfl rfl rfl ?_
  refine hM_is0 (as := [.int xf]) (r := [.long (fo_of (h_l h (h_r h li 2)) v)]) rfl rfl (by decide +kernel) rfl rfl rfl rfl rfl ?_
  refine k_bit M qf ?_
  show HJ 131 19 _ [.long (bt f), .long (fo_of (h_l h (h_r h li 2)) v)] h Q
  refine hI_land rfl rfl ?_
  refine hI_lc (n := 0) rfl rfl ?_
  refine hM_lcmp rfl rfl (fun w qw => ?_)
  have ev : fo_of (h_l h (h_r h li 2)) v = h_l h (h_r h li 2) v.toNat := fo_P v0 (by omega)
  have ef : bt f = bt ((f.toNat : Nat) : Int) := by rw [show ((f.toNat : Nat) : Int) = f by omega]
  have key := bs_nz (x := h_l h (h_r h li 2) v.toNat) (v := f.toNat) (by omega)
  rw [ev, ef] at qw
  refine hM_zeq (off := 7) (t := 29) rfl qw (by decide) rfl (fun c => ?_) (fun c => ?_)
  · have nb : bs (h_l h (h_r h li 2) v.toNat) f.toNat = false := key.mp (lg_0.mp c)
    refine hM_ic (n := 0) rfl (by decide) rfl (fun x q => ?_)
    exact hM_rb rfl rfl q (by omega) (by omega) (g x (by rw [q, nb]; rfl))
  · have nb : bs (h_l h (h_r h li 2) v.toNat) f.toNat = true := by
      cases e : bs (h_l h (h_r h li 2) v.toNat) f.toNat with
      | true => rfl
      | false => exact absurd (lg_0.mpr (key.mpr e)) c
    refine hM_ic (n := 1) rfl (by decide) rfl (fun x q => ?_)
    refine hI_go (pc' := 30) (off := 4) rfl (by decide) ?_
    exact hM_rb rfl rfl q (by omega) (by omega) (g x (by rw [q, nb]; rfl))
end
-- the fewest acts from one version to another, pure
def aw_g (D : Nat → Int) (p : Int) : Int := if p = -1 then -1 else D p.toNat
def aw_st (p q : Int) : Int := if p = -1 then (if q = -1 then -1 else q + 1) else if q = -1 then p + 1 else if p < q then p + 1 else q + 1
def aw_f (D : Nat → Int) (Y : RYt) (a v : Nat) : Int := if v = a then 0 else aw_st (aw_g D (ry_a Y v)) (aw_g D (ry_b Y v))
def aw_of (D : Nat → Int) (Y : RYt) (a n : Nat) : Prop := ∀ v, v < n → D v = aw_f D Y a v ∧ -1 ≤ D v ∧ D v ≤ (v : Int)
theorem aw_gR (D : Nat → Int) (p : Int) : (p = -1 ∧ aw_g D p = -1) ∨ (p ≠ -1 ∧ aw_g D p = D p.toNat) := by
  unfold aw_g
  split
  · exact Or.inl ⟨by assumption, rfl⟩
  · exact Or.inr ⟨by assumption, rfl⟩
theorem aw_sR (p q : Int) : (p = -1 ∧ q = -1 ∧ aw_st p q = -1) ∨ (p = -1 ∧ q ≠ -1 ∧ aw_st p q = q + 1) ∨ (p ≠ -1 ∧ q = -1 ∧ aw_st p q = p + 1) ∨ (p ≠ -1 ∧ q ≠ -1 ∧ p < q ∧ aw_st p q = p + 1) ∨ (p ≠ -1 ∧ q ≠ -1 ∧ q ≤ p ∧ aw_st p q = q + 1) := by
  unfold aw_st
  split
  · split <;> omega
  · split
    · omega
    · split <;> omega
theorem aw_gC {D D' : Nat → Int} {p : Int} {v : Nat} (e : ∀ u, u < v → D' u = D u) (p0 : -1 ≤ p) (p1 : p < (v : Int)) : aw_g D' p = aw_g D p := by
  unfold aw_g
  split
  · rfl
  · exact e _ (by omega)
theorem aw_fC {D D' : Nat → Int} {Y : RYt} {k a v u : Nat} (o : ry_ok Y k) (e : ∀ u, u < v → D' u = D u) (uv : u ≤ v) (hu : u < ry_v Y) : aw_f D' Y a u = aw_f D Y a u := by
  obtain ⟨⟨a0, a1⟩, b0, b1⟩ := o.2.2 u hu
  unfold aw_f
  rw [aw_gC e a0 (by omega), aw_gC e b0 (by omega)]
theorem aw_B {D : Nat → Int} {Y : RYt} {k a v : Nat} (o : ry_ok Y k) (hv : v < ry_v Y) (A : aw_of D Y a v) : -1 ≤ aw_f D Y a v ∧ aw_f D Y a v ≤ (v : Int) := by
  obtain ⟨⟨a0, a1⟩, b0, b1⟩ := o.2.2 v hv
  unfold aw_f
  split
  · omega
  · have ga := aw_gR D (ry_a Y v)
    have gb := aw_gR D (ry_b Y v)
    have s := aw_sR (aw_g D (ry_a Y v)) (aw_g D (ry_b Y v))
    have ba : ry_a Y v ≠ -1 → -1 ≤ D (ry_a Y v).toNat ∧ D (ry_a Y v).toNat < (v : Int) := fun c => by
      have := (A (ry_a Y v).toNat (by omega)).2
      omega
    have bb : ry_b Y v ≠ -1 → -1 ≤ D (ry_b Y v).toNat ∧ D (ry_b Y v).toNat < (v : Int) := fun c => by
      have := (A (ry_b Y v).toNat (by omega)).2
      omega
    omega
theorem aw_S {D D' : Nat → Int} {Y : RYt} {k a v : Nat} (o : ry_ok Y k) (hv : v < ry_v Y) (A : aw_of D Y a v) (e1 : ∀ u, u < v → D' u = D u) (e2 : D' v = aw_f D Y a v) : aw_of D' Y a (v + 1) := fun u hu => by
  by_cases e : u = v
  · subst e
    rw [aw_fC o e1 (Nat.le_refl _) hv, e2]
    exact ⟨rfl, aw_B o hv A⟩
  · rw [aw_fC o e1 (by omega) (by omega), e1 u (by omega)]
    exact A u (by omega)
theorem aw_U {D D' : Nat → Int} {Y : RYt} {k a n : Nat} (o : ry_ok Y k) (hn : n ≤ ry_v Y) (A : aw_of D Y a n) (B : aw_of D' Y a n) : ∀ v, v < n → D' v = D v := by
  intro v
  induction v using Nat.strongRecOn with
  | ind v ih =>
    intro hv
    rw [(A v hv).1, (B v hv).1]
    exact aw_fC o (fun u hu => ih u hu (by omega)) (Nat.le_refl _) (by omega)
theorem aw_I {D : Nat → Int} {Y : RYt} {k a : Nat} (o : ry_ok Y k) (ha : a < ry_v Y) (e0 : ∀ u, u < a → D u = -1) (e1 : D a = 0) : aw_of D Y a (a + 1) := fun u hu => by
  by_cases e : u = a
  · subst e
    rw [aw_f, if_pos rfl, e1]
    exact ⟨rfl, by decide, by omega⟩
  · obtain ⟨⟨a0, a1⟩, b0, b1⟩ := o.2.2 u (by omega)
    have g : ∀ p : Int, -1 ≤ p → p < (u : Int) → aw_g D p = -1 := fun p p0 p1 => by
      unfold aw_g
      split
      · rfl
      · exact e0 _ (by omega)
    rw [aw_f, if_neg e, g _ a0 a1, g _ b0 b1, e0 u (by omega)]
    exact ⟨rfl, by decide, by omega⟩
-- the greatest bit below a bound
def mt_g (x : Int64) : Nat → Int
  | 0 => -1
  | n + 1 => if bs x n = true then (n : Int) else mt_g x n
theorem mt_gE {x : Int64} {n : Nat} : ∀ {m : Nat}, n ≤ m → (∀ w, n ≤ w → w < m → bs x w = false) → mt_g x m = mt_g x n
  | 0, h, _ => by rw [show n = 0 by omega]
  | m + 1, h, e => by
    by_cases c : n = m + 1
    · rw [c]
    · rw [mt_g, if_neg (by rw [e m (by omega) (by omega)]; decide), mt_gE (m := m) (by omega) (fun w h1 h2 => e w h1 (by omega))]
-- rows told by what stands ahead in them
def rc_of (R : (Nat → Int) → Nat → Int) (B : Nat → Int → Prop) (D : Nat → Int) (n : Nat) : Prop := ∀ v, v < n → D v = R D v ∧ B v (D v)
def rc_ca (R : (Nat → Int) → Nat → Int) (n : Nat) : Prop := ∀ (D D' : Nat → Int) (v : Nat), v < n → (∀ u, u < v → D' u = D u) → R D' v = R D v
theorem rc_U {R : (Nat → Int) → Nat → Int} {B : Nat → Int → Prop} {D D' : Nat → Int} {n N : Nat} (c : rc_ca R N) (hn : n ≤ N) (a : rc_of R B D n) (b : rc_of R B D' n) : ∀ v, v < n → D' v = D v := by
  intro v
  induction v using Nat.strongRecOn with
  | ind v ih =>
    intro hv
    rw [(a v hv).1, (b v hv).1]
    exact c _ _ v (by omega) (fun u hu => ih u hu (by omega))
theorem rc_S {R : (Nat → Int) → Nat → Int} {B : Nat → Int → Prop} {D D' : Nat → Int} {v N : Nat} (c : rc_ca R N) (hv : v < N) (a : rc_of R B D v) (e1 : ∀ u, u < v → D' u = D u) (e2 : D' v = R D v) (b : B v (R D v)) : rc_of R B D' (v + 1) := fun u hu => by
  by_cases e : u = v
  · subst e
    rw [c D D' u hv e1, e2]
    exact ⟨rfl, b⟩
  · rw [c D D' u (by omega) (fun w hw => e1 w (by omega)), e1 u (by omega)]
    exact a u (by omega)
-- how many ways, and the most links of one
def wg (D : Nat → Int) (p : Int) : Int := if p = -1 then 0 else D p.toNat
theorem wg_R (D : Nat → Int) (p : Int) : (p = -1 ∧ wg D p = 0) ∨ (p ≠ -1 ∧ wg D p = D p.toNat) := by
  unfold wg
  split
  · exact Or.inl ⟨by assumption, rfl⟩
  · exact Or.inr ⟨by assumption, rfl⟩
def wf (Y : RYt) (a : Nat) (D : Nat → Int) (v : Nat) : Int := if v = a then 1 else wg D (ry_a Y v) + wg D (ry_b Y v)
def mm (p q : Int) : Int := if p < q then q else p
def mj (m l : Int) : Int := if m = -1 then -1 else m + l
def mf (Y : RYt) (a : Nat) (D : Nat → Int) (v : Nat) : Int := if v = a then 0 else mj (mm (aw_g D (ry_a Y v)) (aw_g D (ry_b Y v))) (ry_l Y (v - 1))
theorem mm_R (p q : Int) : (p < q ∧ mm p q = q) ∨ (q ≤ p ∧ mm p q = p) := by
  unfold mm
  split <;> omega
theorem mj_R (m l : Int) : (m = -1 ∧ mj m l = -1) ∨ (m ≠ -1 ∧ mj m l = m + l) := by
  unfold mj
  split <;> omega
def wB (v : Nat) (x : Int) : Prop := 0 ≤ x ∧ x ≤ ((2 ^ v : Nat) : Int)
def mB (v : Nat) (x : Int) : Prop := -1 ≤ x ∧ x ≤ 20000 * (v : Int)
theorem wg_C {D D' : Nat → Int} {p : Int} {v : Nat} (e : ∀ u, u < v → D' u = D u) (p0 : -1 ≤ p) (p1 : p < (v : Int)) : wg D' p = wg D p := by
  unfold wg
  split
  · rfl
  · exact e _ (by omega)
theorem wf_ca {Y : RYt} {k a : Nat} (o : ry_ok Y k) : rc_ca (wf Y a) (ry_v Y) := fun D D' v hv e => by
  obtain ⟨⟨a0, a1⟩, b0, b1⟩ := o.2.2 v hv
  unfold wf
  rw [wg_C e a0 a1, wg_C e b0 b1]
theorem mf_ca {Y : RYt} {k a : Nat} (o : ry_ok Y k) : rc_ca (mf Y a) (ry_v Y) := fun D D' v hv e => by
  obtain ⟨⟨a0, a1⟩, b0, b1⟩ := o.2.2 v hv
  unfold mf
  rw [aw_gC e a0 a1, aw_gC e b0 b1]
theorem wf_B {Y : RYt} {k a v : Nat} {D : Nat → Int} (o : ry_ok Y k) (hv : v < ry_v Y) (A : rc_of (wf Y a) wB D v) : wB v (wf Y a D v) := by
  obtain ⟨⟨a0, a1⟩, b0, b1⟩ := o.2.2 v hv
  have p1 : 1 ≤ 2 ^ v := Nat.one_le_two_pow
  unfold wf
  split
  · exact ⟨by decide, by omega⟩
  · have ga := wg_R D (ry_a Y v)
    have gb := wg_R D (ry_b Y v)
    have bd : ∀ p : Int, p ≠ -1 → -1 ≤ p → p < (v : Int) → 0 ≤ D p.toNat ∧ 2 * D p.toNat ≤ ((2 ^ v : Nat) : Int) := fun p c h0 h1 => by
      have := (A p.toNat (by omega)).2
      obtain ⟨w, rfl⟩ : ∃ w, v = w + 1 := ⟨v - 1, by omega⟩
      have q := Nat.pow_le_pow_right (n := 2) (by decide) (show p.toNat ≤ w by omega)
      have q2 : 2 ^ (w + 1) = 2 ^ w * 2 := Nat.pow_succ _ _
      have t1 := this.1
      have t2 := this.2
      omega
    have ba := fun c => bd (ry_a Y v) c a0 a1
    have bb := fun c => bd (ry_b Y v) c b0 b1
    exact ⟨by omega, by omega⟩
theorem mf_B {Y : RYt} {k a v : Nat} {D : Nat → Int} (o : ry_ok Y k) (hv : v < ry_v Y) (l : ∀ j, j + 1 < ry_v Y → 0 ≤ ry_l Y j ∧ ry_l Y j ≤ 15120) (A : rc_of (mf Y a) mB D v) : mB v (mf Y a D v) := by
  obtain ⟨⟨a0, a1⟩, b0, b1⟩ := o.2.2 v hv
  unfold mf
  split
  · exact ⟨by decide, by omega⟩
  · have ga := aw_gR D (ry_a Y v)
    have gb := aw_gR D (ry_b Y v)
    have bd : ∀ p : Int, p ≠ -1 → -1 ≤ p → p < (v : Int) → -1 ≤ D p.toNat ∧ D p.toNat ≤ 20000 * p := fun p c h0 h1 => by
      have := (A p.toNat (by omega)).2
      have t1 := this.1
      have t2 := this.2
      omega
    have ba := fun c => bd (ry_a Y v) c a0 a1
    have bb := fun c => bd (ry_b Y v) c b0 b1
    have m1 := mm_R (aw_g D (ry_a Y v)) (aw_g D (ry_b Y v))
    have m2 := mj_R (mm (aw_g D (ry_a Y v)) (aw_g D (ry_b Y v))) (ry_l Y (v - 1))
    by_cases v0 : v = 0
    · exact ⟨by omega, by omega⟩
    · have := l (v - 1) (by omega)
      exact ⟨by omega, by omega⟩
theorem wm_R {Y : RYt} {k a n : Nat} {W D : Nat → Int} (o : ry_ok Y k) (hn : n ≤ ry_v Y) (l : ∀ j, j + 1 < ry_v Y → 0 ≤ ry_l Y j ∧ ry_l Y j ≤ 15120) (A : rc_of (wf Y a) wB W n) (B : rc_of (mf Y a) mB D n) : ∀ v, v < n → (W v = 0 ∧ D v = -1) ∨ (0 < W v ∧ 0 ≤ D v) := by
  intro v
  induction v using Nat.strongRecOn with
  | ind v ih =>
    intro hv
    obtain ⟨⟨a0, a1⟩, b0, b1⟩ := o.2.2 v (by omega)
    rw [(A v hv).1, (B v hv).1, wf, mf]
    by_cases e : v = a
    · rw [if_pos e, if_pos e]
      exact Or.inr ⟨by decide, Int.le_refl _⟩
    · rw [if_neg e, if_neg e]
      have ga := aw_gR D (ry_a Y v)
      have gb := aw_gR D (ry_b Y v)
      have wa := wg_R W (ry_a Y v)
      have wb := wg_R W (ry_b Y v)
      have ia : ry_a Y v ≠ -1 → (W (ry_a Y v).toNat = 0 ∧ D (ry_a Y v).toNat = -1) ∨ (0 < W (ry_a Y v).toNat ∧ 0 ≤ D (ry_a Y v).toNat) := fun c => ih _ (by omega) (by omega)
      have ib : ry_b Y v ≠ -1 → (W (ry_b Y v).toNat = 0 ∧ D (ry_b Y v).toNat = -1) ∨ (0 < W (ry_b Y v).toNat ∧ 0 ≤ D (ry_b Y v).toNat) := fun c => ih _ (by omega) (by omega)
      have m1 := mm_R (aw_g D (ry_a Y v)) (aw_g D (ry_b Y v))
      have m2 := mj_R (mm (aw_g D (ry_a Y v)) (aw_g D (ry_b Y v))) (ry_l Y (v - 1))
      by_cases v0 : v = 0
      · omega
      · have := l (v - 1) (by omega)
        omega
-- there are ways just where it comes from it
theorem wf_fro {Y : RYt} {k a n : Nat} {W : Nat → Int} {L : Nat → Int64} (o : ry_ok Y k) (v41 : ry_v Y ≤ 41) (hn : n ≤ ry_v Y) (a40 : a ≤ 40) (A : rc_of (wf Y a) wB W n) (fr : fro_of L Y) : ∀ v, v < n → (bs (L v) a = true ↔ 0 < W v) := by
  intro v
  induction v using Nat.strongRecOn with
  | ind v ih =>
    intro hv
    obtain ⟨⟨a0, a1⟩, b0, b1⟩ := o.2.2 v (by omega)
    have f : ∀ p : Int, -1 ≤ p → p < (v : Int) → (bs (fo_of L p) a = true ↔ 0 < wg W p) := fun p p0 p1 => by
      unfold wg
      by_cases c : p = -1
      · rw [fo_N c, bs_0, if_pos c]
        exact ⟨fun z => absurd z (by decide), fun z => absurd z (by decide)⟩
      · rw [fo_P (by omega) (by omega), if_neg c]
        exact ih _ (by omega) (by omega)
    have fa := f _ a0 a1
    have fb := f _ b0 b1
    have n0 : ∀ p : Int, -1 ≤ p → p < (v : Int) → 0 ≤ wg W p := fun p p0 p1 => by
      unfold wg
      split
      · exact Int.le_refl _
      · exact (A _ (by omega)).2.1
    have na := n0 _ a0 a1
    have nb := n0 _ b0 b1
    rw [fr v (by omega), bs_or, bs_or, bs_bt (by omega) (by omega), (A v hv).1, wf]
    by_cases e : v = a
    · rw [if_pos e, decide_eq_true e.symm, Bool.true_or, Bool.true_or]
      exact ⟨fun _ => by decide, fun _ => rfl⟩
    · rw [if_neg e, decide_eq_false (fun w => e w.symm), Bool.false_or, Bool.or_eq_true, fa, fb]
      omega
-- links of an act: no more than nodes
def lz_ok (S : PSt) : Prop := 0 ≤ ps_l S ∧ ps_l S ≤ (ps_n S : Int)
theorem lz_mk {S : PSt} {t y k : Int} {f : Nat → Int} (h : lz_ok S) : lz_ok (ps_mk S t y k f) := ⟨h.1, by
  have := h.2
  show ps_l S ≤ ((ps_n S + 1 : Nat) : Int)
  omega⟩
theorem lz_lk {S : PSt} {u d : Int} (h : lz_ok S) : lz_ok (ps_lk S u d) := by
  obtain ⟨h1, h2⟩ := h
  exact ⟨by show 0 ≤ ps_l S + 1; omega, by show ps_l S + 1 ≤ ((ps_n S + 1 : Nat) : Int); omega⟩
theorem lz_st {s : Nat → Int} {X : PXt} {r : Nat} (h : lz_ok X.1) : lz_ok (pm_st s X r).1 := by
  unfold pm_st
  split
  · exact lz_lk h
  · split
    · exact lz_lk h
    · exact h
theorem lz_run {s : Nat → Int} {X : PXt} (h : lz_ok X.1) : ∀ r, lz_ok (pm_run s X r).1
  | 0 => h
  | r + 1 => lz_st (lz_run h r)
theorem lz_md {S : PSt} {f s : Nat → Int} (h : lz_ok S) : lz_ok (pm_md S f s).1 := lz_run (X := (S, f, -1)) h 6
theorem lz_tk {X : PSt × (Nat → Int)} (h : lz_ok X.1) : lz_ok (pm_tk X).1 := by
  unfold pm_tk
  split
  · exact h
  · exact lz_md h
theorem lz_pu {S : PSt} {f : Nat → Int} {t k : Int} (h : lz_ok S) : lz_ok (pm_pu S f t k).1 := lz_md (lz_mk h)
theorem lz_ct {k : Int} : ∀ (f : Nat) (X : PSt × (Nat → Int)), lz_ok X.1 → lz_ok (pm_ct k f X).1
  | 0, _, h => h
  | f + 1, X, h => by
    rw [pm_ct]
    split
    · exact h
    · exact lz_ct f _ (lz_tk h)
theorem lz_mkL {S : PSt} {t k : Int} {y : Nat → Nat} {n e : Nat} (h : lz_ok S) : ∀ d, lz_ok (lw_mk S t k y n e d)
  | 0 => h
  | d + 1 => lz_mk (lz_mkL h d)
theorem lz_lw {S : PSt} {f : Nat → Int} {t k : Int} {X : PSt × (Nat → Int)} (e : lw_do S f t k = some X) (h : lz_ok S) : lz_ok X.1 := by
  simp only [lw_do] at e
  split at e
  · cases e
  · cases e
    exact lz_mkL h _
theorem lz_do {Y : RYt} {w v a b : Int} {X : PSt × (Nat → Int) × Int} (e : ry_do Y w v a b = some X) : lz_ok X.1 := by
  have z : lz_ok (ps_le (ry_s Y) 0) := ⟨Int.le_refl _, by show (0 : Int) ≤ ((ps_n (ry_s Y) : Nat) : Int); omega⟩
  simp only [ry_do] at e
  split at e
  · cases e
    exact z
  · split at e
    · cases e
    · split at e
      · split at e
        · cases e
          exact lz_md z
        · cases e
      · split at e
        · split at e
          · cases e
          · cases e
            exact lz_pu z
        · split at e
          · split at e
            · cases e
            · cases e
              exact lz_tk z
          · split at e
            · split at e
              · cases e
              · next q =>
                cases e
                exact lz_lw q z
            · cases e
              exact lz_ct 63 _ z
theorem ry_lB {T : Nat → Int} : ∀ N, N ≤ 40 → (∀ k, k < N → av_2 T k) → ∀ j, j + 1 < ry_v (ry_run T N).1 → 0 ≤ ry_l (ry_run T N).1 j ∧ ry_l (ry_run T N).1 j ≤ 15120
  | 0, _, _, j, hj => by
    have : j + 1 < 1 := hj
    omega
  | N + 1, hN, av, j, hj => by
    obtain ⟨k, k1, k2, k3⟩ := ry_okR N (fun q hq => av q (by omega))
    have ih := ry_lB N (by omega) (fun q hq => av q (by omega))
    by_cases f : (ry_run T N).2 = true
    · cases e : ry_do (ry_z (ry_run T N).1) (T (4 * N)) (T (4 * N + 1)) (T (4 * N + 2)) (T (4 * N + 3)) with
      | none =>
        rw [ry_run0 f e] at hj ⊢
        exact ih j hj
      | some X =>
        obtain ⟨k', k1', k2', -⟩ := ry_okR (N + 1) av
        rw [ry_run1 f e] at hj ⊢ k2'
        have hk := k3 f
        have v1 := k2.2.1.1
        have hj : j + 1 < ry_v (ry_run T N).1 + 1 := hj
        have n1 : ps_n X.1 ≤ 378 * k' := k2'.2.1.2.1
        have l1 := lz_do e
        show 0 ≤ m_u (ry_l (ry_run T N).1) N (ps_l X.1) j ∧ m_u (ry_l (ry_run T N).1) N (ps_l X.1) j ≤ 15120
        by_cases c : j = N
        · rw [c, m_uE]
          have a1 := l1.1
          have a2 := l1.2
          exact ⟨a1, by omega⟩
        · rw [m_uN _ _ _ _ c]
          exact ih j (by omega)
    · have f' : (ry_run T N).2 = false := by simpa using f
      rw [ry_runE f' 1] at hj ⊢
      exact ih j hj
-- the class's lines
section
variable {i pc pc' : Nat} {lv : List (Nat × Value)} {st : List Value} {h : MH} {Q : Option Value → MH → Prop}
theorem hI_maxl {idx nest : Nat} {x y : Int64} (a : m_at i pc = some (.invokestatic idx, 3)) (hm : m_ml i idx = some (nest, 137)) (hc : nest = 0 ∧ 1 ≤ m_fr i ∧ m_cat st + 15 ≤ m_lo i) (hp : pc + 3 = pc') (g : HJ i pc' lv (.long (if y < x then x else y) :: st) h Q) : HJ i pc lv (.long y :: .long x :: st) h Q := by
  subst hp
  refine HJ.ex a (Or.inl rfl) ?_ g
  show e_call 0 i idx pc lv (.long y :: .long x :: st) h = _
  unfold e_call
  rw [hm]
  dsimp only
  rw [if_neg (by decide), if_neg (by decide), if_neg (show ¬ ((137 : Nat) = m_jmin ∨ (137 : Nat) = m_jmax) by decide), if_pos (show (137 : Nat) = m_jminl ∨ (137 : Nat) = m_jmaxl from Or.inr rfl), if_pos ⟨rfl, hc⟩, if_neg (show ¬ (137 : Nat) = m_jminl by decide)]
  rfl
theorem hI_minl {idx nest : Nat} {x y : Int64} (a : m_at i pc = some (.invokestatic idx, 3)) (hm : m_ml i idx = some (nest, 138)) (hc : nest = 0 ∧ 1 ≤ m_fr i ∧ m_cat st + 15 ≤ m_lo i) (hp : pc + 3 = pc') (g : HJ i pc' lv (.long (if y < x then y else x) :: st) h Q) : HJ i pc lv (.long y :: .long x :: st) h Q := by
  subst hp
  refine HJ.ex a (Or.inl rfl) ?_ g
  show e_call 0 i idx pc lv (.long y :: .long x :: st) h = _
  unfold e_call
  rw [hm]
  dsimp only
  rw [if_neg (by decide), if_neg (by decide), if_neg (show ¬ ((138 : Nat) = m_jmin ∨ (138 : Nat) = m_jmax) by decide), if_pos (show (138 : Nat) = m_jminl ∨ (138 : Nat) = m_jmaxl from Or.inl rfl), if_pos ⟨rfl, hc⟩, if_pos (show (138 : Nat) = m_jminl from rfl)]
  rfl
end
theorem j_max (x y : Int64) : (if y < x then x else y).toInt = if y.toInt < x.toInt then x.toInt else y.toInt := by
  by_cases c : y < x
  · rw [if_pos c, if_pos (Int64.lt_iff_toInt_lt.mp c)]
  · rw [if_neg c, if_neg (fun w => c (Int64.lt_iff_toInt_lt.mpr w))]
theorem j_min (x y : Int64) : (if y < x then y else x).toInt = if y.toInt < x.toInt then y.toInt else x.toInt := by
  by_cases c : y < x
  · rw [if_pos c, if_pos (Int64.lt_iff_toInt_lt.mp c)]
  · rw [if_neg c, if_neg (fun w => c (Int64.lt_iff_toInt_lt.mpr w))]
theorem j_m1 : (-1 : Int64).toInt = -1 := by decide
theorem j_eqm {x : Int64} : (lg_cmp x (-1)).toInt = 0 ↔ x.toInt = -1 := by
  rw [lg_0, ← j_m1, Int64.toInt_inj]
theorem j_b64 {n : Int} (h0 : -1000000 ≤ n) (h1 : n ≤ 1000000) : n.bmod (2 ^ 64) = n := by
  show (if n % ((2 ^ 64 : Nat) : Int) < (((2 ^ 64 : Nat) : Int) + 1) / 2 then n % ((2 ^ 64 : Nat) : Int) else n % ((2 ^ 64 : Nat) : Int) - ((2 ^ 64 : Nat) : Int)) = n
  have e : ((2 ^ 64 : Nat) : Int) = 18446744073709551616 := rfl
  rw [e]
  split <;> omega
theorem j_b64w {n : Int} (h0 : -4611686018427387904 ≤ n) (h1 : n ≤ 4611686018427387904) : n.bmod (2 ^ 64) = n := by
  show (if n % ((2 ^ 64 : Nat) : Int) < (((2 ^ 64 : Nat) : Int) + 1) / 2 then n % ((2 ^ 64 : Nat) : Int) else n % ((2 ^ 64 : Nat) : Int) - ((2 ^ 64 : Nat) : Int)) = n
  have e : ((2 ^ 64 : Nat) : Int) = 18446744073709551616 := rfl
  rw [e]
  split <;> omega
theorem j_add {x y : Int64} (h0 : -2305843009213693952 ≤ x.toInt) (h1 : x.toInt ≤ 2305843009213693952) (h2 : -2305843009213693952 ≤ y.toInt) (h3 : y.toInt ≤ 2305843009213693952) : (x + y).toInt = x.toInt + y.toInt := by
  rw [Int64.toInt_add]
  exact j_b64w (by omega) (by omega)
theorem j_le {x y : Int64} : (lg_cmp x y).toInt ≤ 0 ↔ x.toInt ≤ y.toInt := by
  unfold lg_cmp
  by_cases h1 : x > y
  · rw [if_pos h1]
    have : y.toInt < x.toInt := Int64.lt_iff_toInt_lt.mp h1
    exact ⟨fun z => absurd z (by decide), fun z => by omega⟩
  · rw [if_neg h1]
    have : ¬ y.toInt < x.toInt := fun w => h1 (Int64.lt_iff_toInt_lt.mpr w)
    refine ⟨fun _ => by omega, fun _ => ?_⟩
    split <;> decide
theorem j_b32 {n : Int} (h0 : -1000000 ≤ n) (h1 : n ≤ 1000000) : n.bmod (2 ^ 32) = n := by
  show (if n % ((2 ^ 32 : Nat) : Int) < (((2 ^ 32 : Nat) : Int) + 1) / 2 then n % ((2 ^ 32 : Nat) : Int) else n % ((2 ^ 32 : Nat) : Int) - ((2 ^ 32 : Nat) : Int)) = n
  have e : ((2 ^ 32 : Nat) : Int) = 4294967296 := rfl
  rw [e]
  split <;> omega
theorem j_in1 {x : Int64} (h0 : -1000 ≤ x.toInt) (h1 : x.toInt ≤ 1000) : (x + Int64.ofNat (1 : Fin 2).val).toInt = x.toInt + 1 := by
  rw [Int64.toInt_add, show (Int64.ofNat (1 : Fin 2).val).toInt = 1 by decide]
  exact j_b64 (by omega) (by omega)
theorem j_l2i {x : Int64} (h0 : -1000 ≤ x.toInt) (h1 : x.toInt ≤ 1000) : x.toInt32.toInt = x.toInt := by
  rw [Int64.toInt_toInt32]
  exact j_b32 (by omega) (by omega)
theorem j_of {x : Int32} : (Int32.ofInt x.toInt).toInt64.toInt = x.toInt := by
  rw [Int32.ofInt_toInt, Int32.toInt_toInt64]
theorem j_ofn {n : Int} (h0 : -1000000 ≤ n) (h1 : n ≤ 1000000) : (Int32.ofInt n).toInt64.toInt = n := by
  rw [Int32.toInt_toInt64, Int32.toInt_ofInt]
  exact j_b32 h0 h1
theorem ok_42 : rg_okb 42 = true := by decide +kernel
section
variable {lv : List (Nat × Value)} {Q : Option Value → MH → Prop} {W : List (Nat × Nat)} {ρ : Nat → Nat} {m : Nat} {A : Nat → Nat} {h0 h : MH} {F : Nat → Int} {V : Nat → Nat → Int} {G : Nat → Nat → Int64}
theorem s_lt0 {a : Int} (M : MX 42 W ρ m A h0 h F V G) (e0 : m_lk lv 0 = some (.ref m)) {lx1 : Int32} (e1 : m_lk lv 1 = some (.int lx1)) (lq1 : lx1.toInt = a) 
    (g0 : HJ 135 0 (lv_args 0 [.ref (A 3), .long (-1)]) [] h (fun v h' => HJ 134 10 lv (v.toList ++ []) h' Q))
    : HJ 134 0 lv [] h Q := by
  refine hI_al (k := 0) rfl e0 rfl ?_ -- 0
  refine hM_ga M (by decide) rfl rfl (k := 3) (c := 1) rfl rfl rfl (by decide +kernel) rfl ?_ -- 1
  refine hM_jc (x := (-1)) rfl rfl rfl ?_ -- 4
  refine hM_is0 (as := [.ref (A 3), .long (-1)]) (r := []) rfl rfl (by decide +kernel) rfl rfl rfl rfl rfl ?_ -- 7
  exact g0 
theorem s_lt10 {a : Int} (M : MX 42 W ρ m A h0 h F V G) (e0 : m_lk lv 0 = some (.ref m)) {lx1 : Int32} (e1 : m_lk lv 1 = some (.int lx1)) (lq1 : lx1.toInt = a) (hw : d_sub [(46, 1001)] W = true)
    (g0 : a < 0 → Q none h)
    (g1 : a ≥ 0 → a ≥ 41 → Q none h)
    (g2 : ∀ h2 : MH, ∀ G2 : Nat → Nat → Int64, G2 = m_u G 3 (m_u (G 3) (a).toNat (Int64.ofNat (0 : Fin 2).val)) → MX 42 W ρ m A h0 h2 F V G2 → a ≥ 0 → a < 41 → Q none h2)
    : HJ 134 10 lv [] h Q := by
  refine hI_il (k := 1) rfl e1 rfl ?_ -- 10
  refine hM_zlt (off := 16) (t := 27) rfl lq1 (by decide) rfl (fun c11 => ?_) (fun c11 => ?_) -- 11
  · refine hI_rv rfl rfl ?_
    exact g0 c11
  · refine hI_il (k := 1) rfl e1 rfl ?_ -- 14
    refine hM_bp (n := 41) rfl (by decide) rfl (fun x1 q1 => ?_) -- 15
    refine hM_cge (off := 10) (t := 27) rfl lq1 q1 (by decide) rfl (fun c17 => ?_) (fun c17 => ?_) -- 17
    · refine hI_rv rfl rfl ?_
      exact g1 c11 c17
    · refine hI_al (k := 0) rfl e0 rfl ?_ -- 20
      refine hM_ga M (by decide) rfl rfl (k := 3) (c := 1) rfl rfl rfl (by decide +kernel) rfl ?_ -- 21
      refine hI_il (k := 1) rfl e1 rfl ?_ -- 24
      refine hI_lc (n := 0) rfl rfl ?_ -- 25
      refine hM_ls M (by decide) ok_42 (K := 3) (R2 := 46) (L := 41) (H := 41) rfl (by decide) rfl rfl rfl (d_subm hw (by decide +kernel)) rfl lq1 (by omega) (by omega) rfl (fun h2 G2 f2 M2 => ?_) -- 26
      refine hI_rv rfl rfl ?_
      exact g2 h2 G2 f2 M2 c11 c17
theorem s_ty0 {v : Int} (M : MX 42 W ρ m A h0 h F V G) (e0 : m_lk lv 0 = some (.ref m)) {lx1 : Int32} (e1 : m_lk lv 1 = some (.int lx1)) (lq1 : lx1.toInt = v) 
    (g0 : v < 0 → Q (some (.long (-1))) h)
    (g1 : v ≥ 0 → v ≥ 41 → Q (some (.long (-1))) h)
    (g2 : v ≥ 0 → v < 41 → Q (some (.long (G 3 (v).toNat))) h)
    : HJ 136 0 lv [] h Q := by
  refine hI_il (k := 1) rfl e1 rfl ?_ -- 0
  refine hM_zlt (off := 18) (t := 19) rfl lq1 (by decide) rfl (fun c1 => ?_) (fun c1 => ?_) -- 1
  · refine hM_jc (x := (-1)) rfl rfl rfl ?_ -- 19
    refine hI_rl rfl rfl ?_
    exact g0 c1
  · refine hI_il (k := 1) rfl e1 rfl ?_ -- 4
    refine hM_bp (n := 41) rfl (by decide) rfl (fun x1 q1 => ?_) -- 5
    refine hM_cge (off := 12) (t := 19) rfl lq1 q1 (by decide) rfl (fun c7 => ?_) (fun c7 => ?_) -- 7
    · refine hM_jc (x := (-1)) rfl rfl rfl ?_ -- 19
      refine hI_rl rfl rfl ?_
      exact g1 c1 c7
    · refine hI_al (k := 0) rfl e0 rfl ?_ -- 10
      refine hM_ga M (by decide) rfl rfl (k := 3) (c := 1) rfl rfl rfl (by decide +kernel) rfl ?_ -- 11
      refine hI_il (k := 1) rfl e1 rfl ?_ -- 14
      refine hM_la M (by decide) (K := 3) (R2 := 46) (L := 41) (H := 41) rfl (by decide) rfl rfl rfl lq1 (by omega) (by omega) rfl ?_ -- 15
      refine hI_go (pc' := 22) (off := 6) rfl (by decide) ?_ -- 16
      refine hI_rl rfl rfl ?_
      exact g2 c1 c7
theorem s_flt0 (M : MX 42 W ρ m A h0 h F V G) (e0 : m_lk lv 0 = some (.ref (A 3))) {lx1 : Int64} (e1 : m_lk lv 1 = some (.long lx1)) 
    (g0 : ∀ x1 : Int32, x1.toInt = 0 → ∀ x3 : Int32, ∀ z3 : Int, x3.toInt = z3 → 41 ≤ z3 → z3 ≤ 41 → z3 = ((h_k h0 (A 3)).2 : Int) → ∀ lv4 : List (Nat × Value), m_lk lv4 0 = some (.ref (A 3)) → m_lk lv4 1 = some (.long lx1) → m_lk lv4 3 = some (.int x1) → m_lk lv4 4 = some (.int x3) → HJ 135 6 lv4 [] h Q)
    : HJ 135 0 lv [] h Q := by
  refine hM_ic (n := 0) rfl (by decide) rfl (fun x1 q1 => ?_) -- 0
  refine hM_si (k := 3) rfl (by decide +kernel) rfl (fun lv2 e2_3 u2 => ?_) -- 1
  have e2_0 := u2 0 _ (by decide) (Or.inl rfl) e0
  have e2_1 := u2 1 _ (by decide) (Or.inr (by decide)) e1
  refine hI_al (k := 0) rfl e2_0 rfl ?_ -- 2
  refine hM_al M (by decide) (K := 3) (R2 := 46) (L := 41) (H := 41) rfl (by decide) rfl rfl (by decide) rfl rfl (fun x3 z3 q3 a3 b3 c3 => ?_) -- 3
  refine hM_si2 (k := 4) rfl (by decide +kernel) rfl (fun lv4 e4_4 u4 => ?_) -- 4
  have e4_0 := u4 0 _ (by decide) (Or.inl rfl) e2_0
  have e4_1 := u4 1 _ (by decide) (Or.inr (by decide)) e2_1
  have e4_3 := u4 3 _ (by decide) (Or.inl rfl) e2_3
  exact g0 x1 q1 x3 z3 q3 a3 b3 c3 lv4 e4_0 e4_1 e4_3 e4_4
theorem s_flt6 {i n : Int} (M : MX 42 W ρ m A h0 h F V G) (e0 : m_lk lv 0 = some (.ref (A 3))) {lx1 : Int64} (e1 : m_lk lv 1 = some (.long lx1)) {lx3 : Int32} (e3 : m_lk lv 3 = some (.int lx3)) (lq3 : lx3.toInt = i) {lx4 : Int32} (e4 : m_lk lv 4 = some (.int lx4)) (lq4 : lx4.toInt = n) (pi0 : 0 ≤ i) (pn : n ≤ 41)(hw : d_sub [(46, 1001)] W = true)
    (g0 : i ≥ n → Q none h)
    (g1 : ∀ h1 : MH, ∀ G1 : Nat → Nat → Int64, G1 = m_u G 3 (m_u (G 3) (i).toNat lx1) → ∀ x2 : Int32, x2.toInt = i + 1 → ∀ lv2 : List (Nat × Value), MX 42 W ρ m A h0 h1 F V G1 → m_lk lv2 0 = some (.ref (A 3)) → m_lk lv2 1 = some (.long lx1) → m_lk lv2 3 = some (.int x2) → m_lk lv2 4 = some (.int lx4) → i < n → HJ 135 6 lv2 [] h1 Q)
    : HJ 135 6 lv [] h Q := by
  refine hI_il (k := 3) rfl e3 rfl ?_ -- 6
  refine hI_il2 (k := 4) rfl e4 rfl ?_ -- 7
  refine hM_cge (off := 13) (t := 22) rfl lq3 lq4 (by decide) rfl (fun c9 => ?_) (fun c9 => ?_) -- 9
  · refine hI_rv rfl rfl ?_
    exact g0 c9
  · refine hI_al (k := 0) rfl e0 rfl ?_ -- 12
    refine hI_il (k := 3) rfl e3 rfl ?_ -- 13
    refine hI_ll (k := 1) rfl e1 rfl ?_ -- 14
    refine hM_ls M (by decide) ok_42 (K := 3) (R2 := 46) (L := 41) (H := 41) rfl (by decide) rfl rfl rfl (d_subm hw (by decide +kernel)) rfl lq3 (by omega) (by omega) rfl (fun h1 G1 f1 M1 => ?_) -- 15
    refine hM_inc (k := 3) (z := 1) rfl e3 lq3 (by decide) (by omega) (by omega) (by decide +kernel) rfl (fun lv2 x2 q2 e2_3 u2 => ?_) -- 16
    have e2_0 := u2 0 _ (by decide) (Or.inl rfl) e0
    have e2_1 := u2 1 _ (by decide) (Or.inr (by decide)) e1
    have e2_4 := u2 4 _ (by decide) (Or.inl rfl) e4
    refine hI_go (pc' := 6) (off := (-13)) rfl (by decide) ?_ -- 19
    exact g1 h1 G1 f1 x2 q2 lv2 M1 e2_0 e2_1 e2_3 e2_4 c9
theorem l_flt {z : Int64} (hw : d_sub [(46, 1001)] W = true) (g : ∀ (h' : MH) (G' : Nat → Nat → Int64), MX 42 W ρ m A h0 h' F V G' → (∀ j, j < 41 → G' 3 j = z) → Q none h') : ∀ (d i : Nat) (lv : List (Nat × Value)) (h : MH) (G : Nat → Nat → Int64) (xi xn : Int32), i + d = 41 → MX 42 W ρ m A h0 h F V G → (∀ j, j < i → G 3 j = z) → xi.toInt = (i : Int) → xn.toInt = 41 → m_lk lv 0 = some (.ref (A 3)) → m_lk lv 1 = some (.long z) → m_lk lv 3 = some (.int xi) → m_lk lv 4 = some (.int xn) → HJ 135 6 lv [] h Q := by
  intro d
  induction d with
  | zero =>
    intro i lv h G xi xn hd M I qi qn e0 e1 e3 e4
    exact s_flt6 M e0 e1 e3 qi e4 qn (by omega) (by omega) hw (fun _ => g h G M (fun j hj => I j (by omega))) (fun _ _ _ _ _ _ _ _ _ _ _ c => absurd c (by omega))
  | succ d ih =>
    intro i lv h G xi xn hd M I qi qn e0 e1 e3 e4
    refine s_flt6 M e0 e1 e3 qi e4 qn (by omega) (by omega) hw (fun c => absurd c (by omega)) (fun h1 G1 f1 x2 q2 lv2 M1 a0 a1 a3 a4 _ => ih (i + 1) lv2 h1 G1 x2 xn (by omega) M1 (fun j hj => ?_) (by omega) qn a0 a1 a3 a4)
    rw [Int.toNat_natCast] at f1
    rw [f1, m_uE]
    by_cases e : j = i
    · rw [e, m_uE]
    · rw [m_uN _ _ _ _ e]
      exact I j (by omega)
theorem c_lstart {a : Nat} {xa : Int32} (M : MX 42 W ρ m A h0 h F V G) (hw : d_sub [(46, 1001)] W = true) (qa : xa.toInt = (a : Int)) (a40 : a ≤ 40) (g : ∀ (h' : MH) (G' : Nat → Nat → Int64), MX 42 W ρ m A h0 h' F V G' → (∀ j, j < 41 → j ≠ a → (G' 3 j).toInt = -1) → (G' 3 a).toInt = 0 → Q none h') : HJ 134 0 (lv_args 0 [.ref m, .int xa]) [] h Q := by
  refine s_lt0 M rfl rfl qa (s_flt0 M rfl rfl (fun x1 q1 x3 z3 q3 a3 b3 _ lv4 d0 d1 d3 d4 => l_flt (z := -1) hw (fun h2 G2 M2 k => ?_) 41 0 lv4 h G x1 x3 rfl M (fun _ c => absurd c (Nat.not_lt_zero _)) q1 (by omega) d0 d1 d3 d4))
  show HJ 134 10 _ [] h2 Q
  refine s_lt10 M2 rfl rfl qa hw (fun c => absurd c (by omega)) (fun _ c => absurd c (by omega)) (fun h3 G3 f3 M3 _ _ => g h3 G3 M3 (fun j hj hn => ?_) ?_)
  · rw [Int.toNat_natCast] at f3
    rw [f3, m_uE, m_uN _ _ _ _ hn, k j hj]
    exact j_m1
  · rw [Int.toNat_natCast] at f3
    rw [f3, m_uE, m_uE]
    decide
theorem c_tally {v : Int} {xv : Int32} (M : MX 42 W ρ m A h0 h F V G) (qv : xv.toInt = v) (v0 : -1 ≤ v) (v40 : v ≤ 40) (g : ∀ x : Int64, x.toInt = aw_g (fun u => (G 3 u).toInt) v → Q (some (.long x)) h) : HJ 136 0 (lv_args 0 [.ref m, .int xv]) [] h Q :=
  s_ty0 M rfl rfl qv (fun c => g _ (by rw [j_m1, aw_g, if_pos (by omega)])) (fun _ c => absurd c (by omega)) (fun c _ => g _ (by rw [aw_g, if_neg (by omega)]))
end
-- way, both sides
def wy_in (Y : RYt) (row : Prop) (a b : Int) : Prop := row ∧ (0 ≤ a ∧ a < (ry_v Y : Int)) ∧ 0 ≤ b ∧ b < (ry_v Y : Int)
def wy_a (W D : Nat → Int) (b : Nat) (w z : Int) : Prop := (W b = 0 ∧ z = -1) ∨ (W b ≠ 0 ∧ w ≠ 0 ∧ z = W b) ∨ (W b ≠ 0 ∧ w = 0 ∧ z = D b)
def wy_q (Y : RYt) (row : Prop) (a b w : Int) (z : Int64) : Prop := (¬ wy_in Y row a b ∧ z = -1) ∨ (wy_in Y row a b ∧ ∃ W D, rc_of (wf Y a.toNat) wB W (b.toNat + 1) ∧ rc_of (mf Y a.toNat) mB D (b.toNat + 1) ∧ wy_a W D b.toNat w z.toInt)
theorem wy_eq {Y : RYt} {n : Nat} {row row' : Prop} {a b w : Int} {y z : Int64} (o : ry_ok Y n) (er : row ↔ row') (A : wy_q Y row a b w z) (B : wy_q Y row' a b w y) : y = z := by
  rcases A with ⟨a1, a2⟩ | ⟨⟨a0, a1, a3⟩, W, D, w1, d1, A⟩
  · rcases B with ⟨-, b2⟩ | ⟨⟨b1, b3⟩, -⟩
    · rw [a2, b2]
    · exact absurd ⟨er.mpr b1, b3⟩ a1
  · rcases B with ⟨b1, -⟩ | ⟨-, W', D', w2, d2, B⟩
    · exact absurd ⟨er.mp a0, a1, a3⟩ b1
    · have e1 := rc_U (wf_ca o) (by omega) w1 w2 b.toNat (by omega)
      have e2 := rc_U (mf_ca o) (by omega) d1 d2 b.toNat (by omega)
      refine Int64.toInt_inj.mp ?_
      unfold wy_a at A B
      rw [e1, e2] at B
      omega
section
variable {lv : List (Nat × Value)} {Q : Option Value → MH → Prop} {W : List (Nat × Nat)} {ρ : Nat → Nat} {m : Nat} {A : Nat → Nat} {h0 h : MH} {F : Nat → Int} {V : Nat → Nat → Int} {G : Nat → Nat → Int64}
theorem s_wt0w {v a : Int} (M : MX 49 W ρ m A h0 h F V G) (e0 : m_lk lv 0 = some (.ref m)) {lx1 : Int32} (e1 : m_lk lv 1 = some (.int lx1)) (lq1 : lx1.toInt = v) {lx2 : Int32} (e2 : m_lk lv 2 = some (.int lx2)) (lq2 : lx2.toInt = a) (v0 : 0 ≤ v) (v1 : v ≤ 40)(hw : d_sub [(94, 1001), (95, 1001)] W = true)
    (g0 : ∀ h1 : MH, ∀ G1 : Nat → Nat → Int64, G1 = m_u G 65 (m_u (G 65) (v).toNat (Int64.ofNat (0 : Fin 2).val)) → ∀ h3 : MH, ∀ V3 : Nat → Nat → Int, V3 = m_u V 66 (m_u (V 66) (v).toNat ((-1))) → ∀ x4 : Int32, x4.toInt = 0 → ∀ lv5 : List (Nat × Value), MX 49 W ρ m A h0 h3 F V3 G1 → m_lk lv5 0 = some (.ref m) → m_lk lv5 1 = some (.int lx1) → m_lk lv5 2 = some (.int lx2) → m_lk lv5 3 = some (.int x4) → v ≠ a → HJ 281 40 lv5 [] h3 Q)
    (g1 : ∀ h6 : MH, ∀ G6 : Nat → Nat → Int64, G6 = m_u G 65 (m_u (G 65) (v).toNat (Int64.ofNat (1 : Fin 2).val)) → ∀ h8 : MH, ∀ V8 : Nat → Nat → Int, V8 = m_u V 66 (m_u (V 66) (v).toNat (0)) → MX 49 W ρ m A h0 h8 F V8 G6 → v = a → Q none h8)
    : HJ 281 0 lv [] h Q := by
  refine hI_al (k := 0) rfl e0 rfl ?_ -- 0
  refine hM_ga M (by decide) rfl rfl (k := 65) (c := 9) rfl rfl rfl (by decide +kernel) rfl ?_ -- 1
  refine hI_il (k := 1) rfl e1 rfl ?_ -- 4
  refine hI_il (k := 1) rfl e1 rfl ?_ -- 5
  refine hI_il (k := 2) rfl e2 rfl ?_ -- 6
  refine hM_cne (off := 7) (t := 14) rfl lq1 lq2 (by decide) rfl (fun c7 => ?_) (fun c7 => ?_) -- 7
  · refine hI_lc (n := 0) rfl rfl ?_ -- 14
    refine hM_ls M (by decide) ok_49 (K := 65) (R2 := 94) (L := 41) (H := 41) rfl (by decide) rfl rfl rfl (d_subm hw (by decide +kernel)) rfl lq1 (by omega) (by omega) rfl (fun h1 G1 f1 M1 => ?_) -- 15
    refine hI_al (k := 0) rfl e0 rfl ?_ -- 16
    refine hM_ga M1 (by decide) rfl rfl (k := 66) (c := 9) rfl rfl rfl (by decide +kernel) rfl ?_ -- 17
    refine hI_il (k := 1) rfl e1 rfl ?_ -- 20
    refine hI_il (k := 1) rfl e1 rfl ?_ -- 21
    refine hI_il (k := 2) rfl e2 rfl ?_ -- 22
    refine hM_cne (off := 7) (t := 30) rfl lq1 lq2 (by decide) rfl (fun c23 => ?_) (fun c23 => ?_) -- 23
    · refine hM_ic (n := (-1)) rfl (by decide) rfl (fun x2 q2 => ?_) -- 30
      refine hM_is M1 (by decide) ok_49 (K := 66) (R2 := 95) (L := 41) (H := 41) (lo := (-2147483648)) (hi := 2147483647) rfl (by decide) rfl rfl rfl (fun _ => rfl) (d_subm hw (by decide +kernel)) rfl lq1 q2 (by omega) (by omega) (by omega) (by omega) rfl (fun h3 V3 f3 M3 => ?_) -- 31
      refine hI_il (k := 1) rfl e1 rfl ?_ -- 32
      refine hI_il (k := 2) rfl e2 rfl ?_ -- 33
      refine hM_cne (off := 4) (t := 38) rfl lq1 lq2 (by decide) rfl (fun c34 => ?_) (fun c34 => ?_) -- 34
      · refine hM_ic (n := 0) rfl (by decide) rfl (fun x4 q4 => ?_) -- 38
        refine hM_si (k := 3) rfl (by decide +kernel) rfl (fun lv5 e5_3 u5 => ?_) -- 39
        have e5_0 := u5 0 _ (by decide) (Or.inl rfl) e0
        have e5_1 := u5 1 _ (by decide) (Or.inl rfl) e1
        have e5_2 := u5 2 _ (by decide) (Or.inl rfl) e2
        exact g0 h1 G1 f1 h3 V3 f3 x4 q4 lv5 M3 e5_0 e5_1 e5_2 e5_3 c7
      · exfalso; omega
    · exfalso; omega
  · refine hI_lc (n := 1) rfl rfl ?_ -- 10
    refine hI_go (pc' := 15) (off := 4) rfl (by decide) ?_ -- 11
    refine hM_ls M (by decide) ok_49 (K := 65) (R2 := 94) (L := 41) (H := 41) rfl (by decide) rfl rfl rfl (d_subm hw (by decide +kernel)) rfl lq1 (by omega) (by omega) rfl (fun h6 G6 f6 M6 => ?_) -- 15
    refine hI_al (k := 0) rfl e0 rfl ?_ -- 16
    refine hM_ga M6 (by decide) rfl rfl (k := 66) (c := 9) rfl rfl rfl (by decide +kernel) rfl ?_ -- 17
    refine hI_il (k := 1) rfl e1 rfl ?_ -- 20
    refine hI_il (k := 1) rfl e1 rfl ?_ -- 21
    refine hI_il (k := 2) rfl e2 rfl ?_ -- 22
    refine hM_cne (off := 7) (t := 30) rfl lq1 lq2 (by decide) rfl (fun c23 => ?_) (fun c23 => ?_) -- 23
    · exfalso; omega
    · refine hM_ic (n := 0) rfl (by decide) rfl (fun x7 q7 => ?_) -- 26
      refine hI_go (pc' := 31) (off := 4) rfl (by decide) ?_ -- 27
      refine hM_is M6 (by decide) ok_49 (K := 66) (R2 := 95) (L := 41) (H := 41) (lo := (-2147483648)) (hi := 2147483647) rfl (by decide) rfl rfl rfl (fun _ => rfl) (d_subm hw (by decide +kernel)) rfl lq1 q7 (by omega) (by omega) (by omega) (by omega) rfl (fun h8 V8 f8 M8 => ?_) -- 31
      refine hI_il (k := 1) rfl e1 rfl ?_ -- 32
      refine hI_il (k := 2) rfl e2 rfl ?_ -- 33
      refine hM_cne (off := 4) (t := 38) rfl lq1 lq2 (by decide) rfl (fun c34 => ?_) (fun c34 => ?_) -- 34
      · exfalso; omega
      · refine hI_rv rfl rfl ?_
        exact g1 h6 G6 f6 h8 V8 f8 M8 c7
theorem s_wt40w {v a i : Int} (M : MX 49 W ρ m A h0 h F V G) (e0 : m_lk lv 0 = some (.ref m)) {lx1 : Int32} (e1 : m_lk lv 1 = some (.int lx1)) (lq1 : lx1.toInt = v) {lx2 : Int32} (e2 : m_lk lv 2 = some (.int lx2)) (lq2 : lx2.toInt = a) {lx3 : Int32} (e3 : m_lk lv 3 = some (.int lx3)) (lq3 : lx3.toInt = i) (v0 : 0 ≤ v) (v1 : v ≤ 40)
    (g0 : i ≥ 2 → Q none h)
    (g1 : ∀ x2 : Int32, x2.toInt = V 40 (v).toNat → ∀ lv3 : List (Nat × Value), m_lk lv3 0 = some (.ref m) → m_lk lv3 1 = some (.int lx1) → m_lk lv3 2 = some (.int lx2) → m_lk lv3 3 = some (.int lx3) → m_lk lv3 4 = some (.int x2) → i < 2 → i ≠ 0 → (-1) ≤ V 40 (v).toNat → V 40 (v).toNat ≤ 40 → HJ 281 66 lv3 [] h Q)
    (g2 : ∀ x4 : Int32, x4.toInt = V 39 (v).toNat → ∀ lv5 : List (Nat × Value), m_lk lv5 0 = some (.ref m) → m_lk lv5 1 = some (.int lx1) → m_lk lv5 2 = some (.int lx2) → m_lk lv5 3 = some (.int lx3) → m_lk lv5 4 = some (.int x4) → i < 2 → i = 0 → (-1) ≤ V 39 (v).toNat → V 39 (v).toNat ≤ 40 → HJ 281 66 lv5 [] h Q)
    : HJ 281 40 lv [] h Q := by
  refine hI_il (k := 3) rfl e3 rfl ?_ -- 40
  refine hM_ic (n := 2) rfl (by decide) rfl (fun x1 q1 => ?_) -- 41
  refine hM_cge (off := 120) (t := 162) rfl lq3 q1 (by decide) rfl (fun c42 => ?_) (fun c42 => ?_) -- 42
  · refine hI_rv rfl rfl ?_
    exact g0 c42
  · refine hI_il (k := 3) rfl e3 rfl ?_ -- 45
    refine hM_zne (off := 12) (t := 58) rfl lq3 (by decide) rfl (fun c46 => ?_) (fun c46 => ?_) -- 46
    · refine hI_al (k := 0) rfl e0 rfl ?_ -- 58
      refine hM_ga M (by decide) rfl rfl (k := 40) (c := 9) rfl rfl rfl (by decide +kernel) rfl ?_ -- 59
      refine hI_il (k := 1) rfl e1 rfl ?_ -- 62
      refine hM_ia M (by decide) (K := 40) (R2 := 75) (L := 41) (H := 41) (lo := (-1)) (hi := 40) rfl (by decide) rfl rfl (fun _ => rfl) rfl lq1 (by omega) (by omega) rfl (fun x2 q2 a2 b2 => ?_) -- 63
      refine hM_si2 (k := 4) rfl (by decide +kernel) rfl (fun lv3 e3_4 u3 => ?_) -- 64
      have e3_0 := u3 0 _ (by decide) (Or.inl rfl) e0
      have e3_1 := u3 1 _ (by decide) (Or.inl rfl) e1
      have e3_2 := u3 2 _ (by decide) (Or.inl rfl) e2
      have e3_3 := u3 3 _ (by decide) (Or.inl rfl) e3
      exact g1 x2 q2 lv3 e3_0 e3_1 e3_2 e3_3 e3_4 c42 c46 a2 b2
    · refine hI_al (k := 0) rfl e0 rfl ?_ -- 49
      refine hM_ga M (by decide) rfl rfl (k := 39) (c := 9) rfl rfl rfl (by decide +kernel) rfl ?_ -- 50
      refine hI_il (k := 1) rfl e1 rfl ?_ -- 53
      refine hM_ia M (by decide) (K := 39) (R2 := 74) (L := 41) (H := 41) (lo := (-1)) (hi := 40) rfl (by decide) rfl rfl (fun _ => rfl) rfl lq1 (by omega) (by omega) rfl (fun x4 q4 a4 b4 => ?_) -- 54
      refine hI_go (pc' := 64) (off := 9) rfl (by decide) ?_ -- 55
      refine hM_si2 (k := 4) rfl (by decide +kernel) rfl (fun lv5 e5_4 u5 => ?_) -- 64
      have e5_0 := u5 0 _ (by decide) (Or.inl rfl) e0
      have e5_1 := u5 1 _ (by decide) (Or.inl rfl) e1
      have e5_2 := u5 2 _ (by decide) (Or.inl rfl) e2
      have e5_3 := u5 3 _ (by decide) (Or.inl rfl) e3
      exact g2 x4 q4 lv5 e5_0 e5_1 e5_2 e5_3 e5_4 c42 c46 a4 b4
theorem s_wt66w {v a i p : Int} (M : MX 49 W ρ m A h0 h F V G) (e0 : m_lk lv 0 = some (.ref m)) {lx1 : Int32} (e1 : m_lk lv 1 = some (.int lx1)) (lq1 : lx1.toInt = v) {lx2 : Int32} (e2 : m_lk lv 2 = some (.int lx2)) (lq2 : lx2.toInt = a) {lx3 : Int32} (e3 : m_lk lv 3 = some (.int lx3)) (lq3 : lx3.toInt = i) {lx4 : Int32} (e4 : m_lk lv 4 = some (.int lx4)) (lq4 : lx4.toInt = p) (v0 : 0 ≤ v) (v1 : v ≤ 40) (p0 : -1 ≤ p) (p1 : p ≤ 40)(hw : d_sub [(94, 1001)] W = true)
    (g0 : p = (-1) → HJ 281 156 lv [] h Q)
    (g1 : p ≠ (-1) → (lg_cmp (G 65 (p).toNat) (Int64.ofNat (0 : Fin 2).val)).toInt ≤ 0 → HJ 281 156 lv [] h Q)
    (g2 : ∀ h6 : MH, ∀ G6 : Nat → Nat → Int64, G6 = m_u G 65 (m_u (G 65) (v).toNat ((G 65 (v).toNat) + (G 65 (p).toNat))) → MX 49 W ρ m A h0 h6 F V G6 → p ≠ (-1) → (lg_cmp (G 65 (p).toNat) (Int64.ofNat (0 : Fin 2).val)).toInt > 0 → HJ 281 100 lv [] h6 Q)
    : HJ 281 66 lv [] h Q := by
  refine hI_il2 (k := 4) rfl e4 rfl ?_ -- 66
  refine hM_ic (n := (-1)) rfl (by decide) rfl (fun x1 q1 => ?_) -- 68
  refine hM_ceq (off := 87) (t := 156) rfl lq4 q1 (by decide) rfl (fun c69 => ?_) (fun c69 => ?_) -- 69
  · exact g0 c69
  · refine hI_al (k := 0) rfl e0 rfl ?_ -- 72
    refine hM_ga M (by decide) rfl rfl (k := 65) (c := 9) rfl rfl rfl (by decide +kernel) rfl ?_ -- 73
    refine hI_il2 (k := 4) rfl e4 rfl ?_ -- 76
    refine hM_la M (by decide) (K := 65) (R2 := 94) (L := 41) (H := 41) rfl (by decide) rfl rfl rfl lq4 (by omega) (by omega) rfl ?_ -- 78
    refine hI_lc (n := 0) rfl rfl ?_ -- 79
    refine hM_lcmp rfl rfl (fun x3 q3 => ?_) -- 80
    refine hM_zle (off := 75) (t := 156) rfl q3 (by decide) rfl (fun c81 => ?_) (fun c81 => ?_) -- 81
    · exact g1 c69 c81
    · refine hI_al (k := 0) rfl e0 rfl ?_ -- 84
      refine hM_ga M (by decide) rfl rfl (k := 65) (c := 9) rfl rfl rfl (by decide +kernel) rfl ?_ -- 85
      refine hI_il (k := 1) rfl e1 rfl ?_ -- 88
      refine hI_dup2 rfl rfl rfl rfl ?_ -- 89
      refine hM_la M (by decide) (K := 65) (R2 := 94) (L := 41) (H := 41) rfl (by decide) rfl rfl rfl lq1 (by omega) (by omega) rfl ?_ -- 90
      refine hI_al (k := 0) rfl e0 rfl ?_ -- 91
      refine hM_ga M (by decide) rfl rfl (k := 65) (c := 9) rfl rfl rfl (by decide +kernel) rfl ?_ -- 92
      refine hI_il2 (k := 4) rfl e4 rfl ?_ -- 95
      refine hM_la M (by decide) (K := 65) (R2 := 94) (L := 41) (H := 41) rfl (by decide) rfl rfl rfl lq4 (by omega) (by omega) rfl ?_ -- 97
      refine hI_ladd rfl rfl ?_ -- 98
      refine hM_ls M (by decide) ok_49 (K := 65) (R2 := 94) (L := 41) (H := 41) rfl (by decide) rfl rfl rfl (d_subm hw (by decide +kernel)) rfl lq1 (by omega) (by omega) rfl (fun h6 G6 f6 M6 => ?_) -- 99
      exact g2 h6 G6 f6 M6 c69 c81
theorem s_wt100w {v a i p : Int} (M : MX 49 W ρ m A h0 h F V G) (e0 : m_lk lv 0 = some (.ref m)) {lx1 : Int32} (e1 : m_lk lv 1 = some (.int lx1)) (lq1 : lx1.toInt = v) {lx2 : Int32} (e2 : m_lk lv 2 = some (.int lx2)) (lq2 : lx2.toInt = a) {lx3 : Int32} (e3 : m_lk lv 3 = some (.int lx3)) (lq3 : lx3.toInt = i) {lx4 : Int32} (e4 : m_lk lv 4 = some (.int lx4)) (lq4 : lx4.toInt = p) (v0 : 1 ≤ v) (v1 : v ≤ 40) (p0 : 0 ≤ p) (p1 : p ≤ 40) (f0 : 0 ≤ V 66 (p).toNat) (f1 : V 66 (p).toNat ≤ 1000000) (l0 : 0 ≤ V 38 (v - 1).toNat) (l1 : V 38 (v - 1).toNat ≤ 1000000)(hw : d_sub [(95, 1001)] W = true)
    (g0 : ∀ h8 : MH, ∀ V8 : Nat → Nat → Int, V8 = m_u V 66 (m_u (V 66) (v).toNat (V 66 (v).toNat)) → MX 49 W ρ m A h0 h8 F V8 G → (V 66 (p).toNat) + (V 38 (v - 1).toNat) ≤ V 66 (v).toNat → HJ 281 156 lv [] h8 Q)
    (g1 : ∀ h14 : MH, ∀ V14 : Nat → Nat → Int, V14 = m_u V 66 (m_u (V 66) (v).toNat ((V 66 (p).toNat) + (V 38 (v - 1).toNat))) → MX 49 W ρ m A h0 h14 F V14 G → (V 66 (p).toNat) + (V 38 (v - 1).toNat) > V 66 (v).toNat → HJ 281 156 lv [] h14 Q)
    : HJ 281 100 lv [] h Q := by
  refine hI_al (k := 0) rfl e0 rfl ?_ -- 100
  refine hM_ga M (by decide) rfl rfl (k := 66) (c := 9) rfl rfl rfl (by decide +kernel) rfl ?_ -- 101
  refine hI_il (k := 1) rfl e1 rfl ?_ -- 104
  refine hI_al (k := 0) rfl e0 rfl ?_ -- 105
  refine hM_ga M (by decide) rfl rfl (k := 66) (c := 9) rfl rfl rfl (by decide +kernel) rfl ?_ -- 106
  refine hI_il2 (k := 4) rfl e4 rfl ?_ -- 109
  refine hM_ia M (by decide) (K := 66) (R2 := 95) (L := 41) (H := 41) (lo := (-2147483648)) (hi := 2147483647) rfl (by decide) rfl rfl (fun _ => rfl) rfl lq4 (by omega) (by omega) rfl (fun x1 q1 a1 b1 => ?_) -- 111
  refine hI_al (k := 0) rfl e0 rfl ?_ -- 112
  refine hM_ga M (by decide) rfl rfl (k := 38) (c := 9) rfl rfl rfl (by decide +kernel) rfl ?_ -- 113
  refine hI_il (k := 1) rfl e1 rfl ?_ -- 116
  refine hM_ic (n := 1) rfl (by decide) rfl (fun x2 q2 => ?_) -- 117
  refine hM_sub rfl lq1 q2 (by omega) (by omega) rfl (fun x3 q3 => ?_) -- 118
  refine hM_ia M (by decide) (K := 38) (R2 := 73) (L := 40) (H := 40) (lo := (-2147483648)) (hi := 2147483647) rfl (by decide) rfl rfl (fun _ => rfl) rfl q3 (by omega) (by omega) rfl (fun x4 q4 a4 b4 => ?_) -- 119
  refine hM_add rfl q1 q4 (by omega) (by omega) rfl (fun x5 q5 => ?_) -- 120
  refine hI_al (k := 0) rfl e0 rfl ?_ -- 121
  refine hM_ga M (by decide) rfl rfl (k := 66) (c := 9) rfl rfl rfl (by decide +kernel) rfl ?_ -- 122
  refine hI_il (k := 1) rfl e1 rfl ?_ -- 125
  refine hM_ia M (by decide) (K := 66) (R2 := 95) (L := 41) (H := 41) (lo := (-2147483648)) (hi := 2147483647) rfl (by decide) rfl rfl (fun _ => rfl) rfl lq1 (by omega) (by omega) rfl (fun x6 q6 a6 b6 => ?_) -- 126
  refine hM_cle (off := 22) (t := 149) rfl q5 q6 (by decide) rfl (fun c127 => ?_) (fun c127 => ?_) -- 127
  · refine hI_al (k := 0) rfl e0 rfl ?_ -- 149
    refine hM_ga M (by decide) rfl rfl (k := 66) (c := 9) rfl rfl rfl (by decide +kernel) rfl ?_ -- 150
    refine hI_il (k := 1) rfl e1 rfl ?_ -- 153
    refine hM_ia M (by decide) (K := 66) (R2 := 95) (L := 41) (H := 41) (lo := (-2147483648)) (hi := 2147483647) rfl (by decide) rfl rfl (fun _ => rfl) rfl lq1 (by omega) (by omega) rfl (fun x7 q7 a7 b7 => ?_) -- 154
    refine hM_is M (by decide) ok_49 (K := 66) (R2 := 95) (L := 41) (H := 41) (lo := (-2147483648)) (hi := 2147483647) rfl (by decide) rfl rfl rfl (fun _ => rfl) (d_subm hw (by decide +kernel)) rfl lq1 q7 (by omega) (by omega) (by omega) (by omega) rfl (fun h8 V8 f8 M8 => ?_) -- 155
    exact g0 h8 V8 f8 M8 c127
  · refine hI_al (k := 0) rfl e0 rfl ?_ -- 130
    refine hM_ga M (by decide) rfl rfl (k := 66) (c := 9) rfl rfl rfl (by decide +kernel) rfl ?_ -- 131
    refine hI_il2 (k := 4) rfl e4 rfl ?_ -- 134
    refine hM_ia M (by decide) (K := 66) (R2 := 95) (L := 41) (H := 41) (lo := (-2147483648)) (hi := 2147483647) rfl (by decide) rfl rfl (fun _ => rfl) rfl lq4 (by omega) (by omega) rfl (fun x9 q9 a9 b9 => ?_) -- 136
    refine hI_al (k := 0) rfl e0 rfl ?_ -- 137
    refine hM_ga M (by decide) rfl rfl (k := 38) (c := 9) rfl rfl rfl (by decide +kernel) rfl ?_ -- 138
    refine hI_il (k := 1) rfl e1 rfl ?_ -- 141
    refine hM_ic (n := 1) rfl (by decide) rfl (fun x10 q10 => ?_) -- 142
    refine hM_sub rfl lq1 q10 (by omega) (by omega) rfl (fun x11 q11 => ?_) -- 143
    refine hM_ia M (by decide) (K := 38) (R2 := 73) (L := 40) (H := 40) (lo := (-2147483648)) (hi := 2147483647) rfl (by decide) rfl rfl (fun _ => rfl) rfl q11 (by omega) (by omega) rfl (fun x12 q12 a12 b12 => ?_) -- 144
    refine hM_add rfl q9 q12 (by omega) (by omega) rfl (fun x13 q13 => ?_) -- 145
    refine hI_go (pc' := 155) (off := 9) rfl (by decide) ?_ -- 146
    refine hM_is M (by decide) ok_49 (K := 66) (R2 := 95) (L := 41) (H := 41) (lo := (-2147483648)) (hi := 2147483647) rfl (by decide) rfl rfl rfl (fun _ => rfl) (d_subm hw (by decide +kernel)) rfl lq1 q13 (by omega) (by omega) (by omega) (by omega) rfl (fun h14 V14 f14 M14 => ?_) -- 155
    exact g1 h14 V14 f14 M14 c127
theorem s_wt156w {v a i : Int} (M : MX 49 W ρ m A h0 h F V G) (e0 : m_lk lv 0 = some (.ref m)) {lx1 : Int32} (e1 : m_lk lv 1 = some (.int lx1)) (lq1 : lx1.toInt = v) {lx2 : Int32} (e2 : m_lk lv 2 = some (.int lx2)) (lq2 : lx2.toInt = a) {lx3 : Int32} (e3 : m_lk lv 3 = some (.int lx3)) (lq3 : lx3.toInt = i) (i0 : 0 ≤ i) (i1 : i ≤ 2)
    (g0 : ∀ x1 : Int32, x1.toInt = i + 1 → ∀ lv1 : List (Nat × Value), m_lk lv1 0 = some (.ref m) → m_lk lv1 1 = some (.int lx1) → m_lk lv1 2 = some (.int lx2) → m_lk lv1 3 = some (.int x1) → HJ 281 40 lv1 [] h Q)
    : HJ 281 156 lv [] h Q := by
  refine hM_inc (k := 3) (z := 1) rfl e3 lq3 (by decide) (by omega) (by omega) (by decide +kernel) rfl (fun lv1 x1 q1 e1_3 u1 => ?_) -- 156
  have e1_0 := u1 0 _ (by decide) (Or.inl rfl) e0
  have e1_1 := u1 1 _ (by decide) (Or.inl rfl) e1
  have e1_2 := u1 2 _ (by decide) (Or.inl rfl) e2
  refine hI_go (pc' := 40) (off := (-119)) rfl (by decide) ?_ -- 159
  exact g0 x1 q1 lv1 e1_0 e1_1 e1_2 e1_3
-- one parent's part
theorem l_wtp {v a : Nat} {p i : Int} {xv xa xi xp : Int32} {l : Int} (M : MX 49 W ρ m A h0 h F V G) (hw : d_sub [(94, 1001), (95, 1001)] W = true) (v40 : v ≤ 40) (qv : xv.toInt = (v : Int)) (qa : xa.toInt = (a : Int)) (qi : xi.toInt = i) (i0 : 0 ≤ i) (i1 : i ≤ 1) (qp : xp.toInt = p) (p0 : -1 ≤ p) (pv : p < (v : Int)) (el : v ≠ 0 → V 38 (v - 1) = l) (l0 : 0 ≤ l) (l1 : l ≤ 15120) (wp : p ≠ -1 → (0 ≤ (G 65 p.toNat).toInt ∧ (G 65 p.toNat).toInt ≤ 1099511627776) ∧ (-1 ≤ V 66 p.toNat ∧ V 66 p.toNat ≤ 900000) ∧ (((G 65 p.toNat).toInt = 0 ∧ V 66 p.toNat = -1) ∨ (0 < (G 65 p.toNat).toInt ∧ 0 ≤ V 66 p.toNat))) (w0 : 0 ≤ (G 65 v).toInt ∧ (G 65 v).toInt ≤ 1099511627776) (e0 : m_lk lv 0 = some (.ref m)) (e1 : m_lk lv 1 = some (.int xv)) (e2 : m_lk lv 2 = some (.int xa)) (e3 : m_lk lv 3 = some (.int xi)) (e4 : m_lk lv 4 = some (.int xp)) (g : ∀ (lv' : List (Nat × Value)) (h' : MH) (V' : Nat → Nat → Int) (G' : Nat → Nat → Int64) (xi' : Int32), MX 49 W ρ m A h0 h' F V' G' → (∀ K, K ≠ 66 → V' K = V K) → (∀ u, u ≠ v → V' 66 u = V 66 u) → (∀ u, u ≠ v → G' 65 u = G 65 u) → (∀ K, K ≠ 65 → G' K = G K) → (G' 65 v).toInt = (G 65 v).toInt + wg (fun u => (G 65 u).toInt) p → (((p = -1 ∨ V 66 p.toNat = -1) ∧ V' 66 v = V 66 v) ∨ (p ≠ -1 ∧ V 66 p.toNat ≠ -1 ∧ V' 66 v = mm (V 66 v) (V 66 p.toNat + l))) → xi'.toInt = i + 1 → m_lk lv' 0 = some (.ref m) → m_lk lv' 1 = some (.int xv) → m_lk lv' 2 = some (.int xa) → m_lk lv' 3 = some (.int xi') → HJ 281 40 lv' [] h' Q) : HJ 281 66 lv [] h Q := by
  have w1 : d_sub [(94, 1001)] W = true := d_subm hw (by decide +kernel)
  have w2 : d_sub [(95, 1001)] W = true := d_subm hw (by decide +kernel)
  have gp := wg_R (fun u => (G 65 u).toInt) p
  have z0 : (Int64.ofNat (0 : Fin 2).val).toInt = 0 := by decide
  have same : (p = -1 ∨ V 66 p.toNat = -1) → HJ 281 156 lv [] h Q := fun c => by
    refine s_wt156w M e0 e1 qv e2 qa e3 qi i0 (by omega) (fun x1 q1 lv1 a0 a1 a2 a3 => g lv1 h V G x1 M (fun _ _ => rfl) (fun _ _ => rfl) (fun _ _ => rfl) (fun _ _ => rfl) ?_ (Or.inl ⟨c, rfl⟩) q1 a0 a1 a2 a3)
    rcases gp with ⟨g1, g2⟩ | ⟨g1, g2⟩
    · rw [g2, Int.add_zero]
    · have := wp g1
      have g2 : wg (fun u => (G 65 u).toInt) p = (G 65 p.toNat).toInt := g2
      omega
  refine s_wt66w M e0 e1 qv e2 qa e3 qi e4 qp (by omega) (by omega) p0 (by omega) w1 (fun c => same (Or.inl c)) (fun c c2 => same (Or.inr ?_)) (fun h6 G6 f6 M6 c c2 => ?_)
  · have c2 := j_le.mp c2
    rw [z0] at c2
    have := wp c
    omega
  · have c2 : ¬ (G 65 p.toNat).toInt ≤ 0 := fun w => absurd ((j_le (x := G 65 p.toNat) (y := Int64.ofNat (0 : Fin 2).val)).mpr (by rw [z0]; exact w)) (by omega)
    obtain ⟨k1, k2, k3⟩ := wp c
    have pn : p.toNat ≠ v := by omega
    rw [Int.toNat_natCast] at f6
    have el' : V 38 ((v : Int) - 1).toNat = l := by
      rw [show ((v : Int) - 1).toNat = v - 1 by omega]
      exact el (by omega)
    have g2 : wg (fun u => (G 65 u).toInt) p = (G 65 p.toNat).toInt := by
      rcases gp with ⟨g1, -⟩ | ⟨-, g2⟩
      · exact absurd g1 c
      · exact g2
    have e6 : (G6 65 v).toInt = (G 65 v).toInt + (G 65 p.toNat).toInt := by
      rw [f6, m_uE, m_uE]
      exact j_add (by omega) (by omega) (by omega) (by omega)
    have fin : ∀ (h8 : MH) (V8 : Nat → Nat → Int), V8 = m_u V 66 (m_u (V 66) v (mm (V 66 v) (V 66 p.toNat + l))) → MX 49 W ρ m A h0 h8 F V8 G6 → HJ 281 156 lv [] h8 Q := fun h8 V8 f8 M8 => by
      refine s_wt156w M8 e0 e1 qv e2 qa e3 qi i0 (by omega) (fun x1 q1 lv1 a0 a1 a2 a3 => g lv1 h8 V8 G6 x1 M8 (fun K hK => by rw [f8, m_uN _ _ _ _ hK]) (fun u hu => by rw [f8, m_uE, m_uN _ _ _ _ hu]) (fun u hu => by rw [f6, m_uE, m_uN _ _ _ _ hu]) (fun K hK => by rw [f6, m_uN _ _ _ _ hK]) (by rw [e6, g2]) (Or.inr ⟨c, by omega, by rw [f8, m_uE, m_uE]⟩) q1 a0 a1 a2 a3)
    have mR := mm_R (V 66 v) (V 66 p.toNat + l)
    refine s_wt100w M6 e0 e1 qv e2 qa e3 qi e4 qp (by omega) (by omega) (by omega) (by omega) (by omega) (by omega) (by rw [el']; omega) (by rw [el']; omega) w2 (fun h8 V8 f8 M8 c9 => fin h8 V8 ?_ M8) (fun h8 V8 f8 M8 c9 => fin h8 V8 ?_ M8)
    · rw [Int.toNat_natCast] at f8
      rw [el', Int.toNat_natCast] at c9
      rw [f8, show mm (V 66 v) (V 66 p.toNat + l) = V 66 v by omega]
    · rw [el', Int.toNat_natCast] at f8
      rw [el', Int.toNat_natCast] at c9
      rw [f8, show mm (V 66 v) (V 66 p.toNat + l) = V 66 p.toNat + l by omega]
theorem c_wto {Y : RYt} {k a v : Nat} {xv xa : Int32} (M : MX 49 W ρ m A h0 h F V G) (o : ry_ok Y k) (hw : d_sub [(94, 1001), (95, 1001)] W = true) (v41 : ry_v Y ≤ 41) (hv : v < ry_v Y) (qv : xv.toInt = (v : Int)) (qa : xa.toInt = (a : Int)) (PA : ∀ u, u < ry_v Y → V 39 u = ry_a Y u ∧ V 40 u = ry_b Y u) (PL : ∀ j, j + 1 < ry_v Y → V 38 j = ry_l Y j) (lB : ∀ j, j + 1 < ry_v Y → 0 ≤ ry_l Y j ∧ ry_l Y j ≤ 15120) (I : rc_of (wf Y a) wB (fun u => (G 65 u).toInt) v) (J : rc_of (mf Y a) mB (V 66) v) (g : ∀ (h' : MH) (V' : Nat → Nat → Int) (G' : Nat → Nat → Int64), MX 49 W ρ m A h0 h' F V' G' → (∀ K, K ≠ 66 → V' K = V K) → rc_of (wf Y a) wB (fun u => (G' 65 u).toInt) (v + 1) → rc_of (mf Y a) mB (V' 66) (v + 1) → Q none h') : HJ 281 0 (lv_args 0 [.ref m, .int xv, .int xa]) [] h Q := by
  obtain ⟨⟨a0, a1⟩, b0, b1⟩ := o.2.2 v hv
  have bW := wf_B o hv I
  have bM := mf_B o hv lB J
  have R := wm_R o (by omega) lB I J
  have p40 : ∀ u, u ≤ 40 → ((2 ^ u : Nat) : Int) ≤ 1099511627776 := fun u hu => by
    have := Nat.pow_le_pow_right (n := 2) (by decide) hu
    have e : (2 : Nat) ^ 40 = 1099511627776 := by decide
    omega
  refine s_wt0w M rfl rfl qv rfl qa (by omega) (by omega) hw (fun h1 G1 f1 h3 V3 f3 x4 q4 lv5 M3 d0 d1 d2 d3 c => ?_) (fun h6 G6 f6 h8 V8 f8 M8 c => ?_)
  rotate_left
  · rw [Int.toNat_natCast] at f6 f8
    have ev : v = a := by omega
    refine g h8 V8 G6 M8 (fun K hK => by rw [f8, m_uN _ _ _ _ hK]) (rc_S (wf_ca o) hv I (fun u hu => by show (G6 65 u).toInt = _; rw [f6, m_uE, m_uN _ _ _ _ (by omega)]) ?_ bW) (rc_S (mf_ca o) hv J (fun u hu => by rw [f8, m_uE, m_uN _ _ _ _ (by omega)]) ?_ bM)
    · show (G6 65 v).toInt = _
      rw [f6, m_uE, m_uE, wf, if_pos ev]
      decide
    · rw [f8, m_uE, m_uE, mf, if_pos ev]
  · rw [Int.toNat_natCast] at f1 f3
    have nv : v ≠ a := by omega
    have eG : ∀ u, u ≠ v → G1 65 u = G 65 u := fun u hu => by rw [f1, m_uE, m_uN _ _ _ _ hu]
    have eV : ∀ u, u ≠ v → V3 66 u = V 66 u := fun u hu => by rw [f3, m_uE, m_uN _ _ _ _ hu]
    have eK : ∀ K, K ≠ 66 → V3 K = V K := fun K hK => by rw [f3, m_uN _ _ _ _ hK]
    have g0 : (G1 65 v).toInt = 0 := by
      rw [f1, m_uE, m_uE]
      decide
    have m0 : V3 66 v = -1 := by rw [f3, m_uE, m_uE]
    have tel : ∀ p : Int, p ≠ -1 → -1 ≤ p → p < (v : Int) → (0 ≤ (G 65 p.toNat).toInt ∧ (G 65 p.toNat).toInt ≤ 1099511627776) ∧ (-1 ≤ V 66 p.toNat ∧ V 66 p.toNat ≤ 800000) ∧ (((G 65 p.toNat).toInt = 0 ∧ V 66 p.toNat = -1) ∨ (0 < (G 65 p.toNat).toInt ∧ 0 ≤ V 66 p.toNat)) := fun p c h0 h1 => by
      obtain ⟨i1, i2⟩ : 0 ≤ (G 65 p.toNat).toInt ∧ (G 65 p.toNat).toInt ≤ ((2 ^ p.toNat : Nat) : Int) := (I p.toNat (by omega)).2
      obtain ⟨j1, j2⟩ : -1 ≤ V 66 p.toNat ∧ V 66 p.toNat ≤ 20000 * ((p.toNat : Nat) : Int) := (J p.toNat (by omega)).2
      have := p40 p.toNat (by omega)
      exact ⟨⟨i1, by omega⟩, ⟨j1, by omega⟩, R p.toNat (by omega)⟩
    have lv0 : ∀ V' : Nat → Nat → Int, (∀ K, K ≠ 66 → V' K = V K) → v ≠ 0 → V' 38 (v - 1) = ry_l Y (v - 1) := fun V' e c => by
      rw [e 38 (by decide)]
      exact PL _ (by omega)
    have lb : 0 ≤ ry_l Y (v - 1) ∨ v = 0 := by
      by_cases c : v = 0
      · exact Or.inr c
      · exact Or.inl (lB _ (by omega)).1
    by_cases v0 : v = 0
    · have ea : ry_a Y v = -1 := by omega
      have eb : ry_b Y v = -1 := by omega
      refine s_wt40w M3 d0 d1 qv d2 qa d3 q4 (by omega) (by omega) (fun c => absurd c (by decide)) (fun _ _ _ _ _ _ _ _ _ c9 _ _ => absurd rfl c9) (fun x5 q5 lv6 c0 c1 c2 c3 c4 _ _ _ _ => ?_)
      rw [Int.toNat_natCast, eK 39 (by decide), (PA v hv).1] at q5
      refine l_wtp (l := 0) M3 hw (by omega) qv qa q4 (by decide) (by decide) q5 a0 a1 (fun c => absurd v0 c) (by decide) (by decide) (fun c => absurd ea c) (by rw [g0]; decide) c0 c1 c2 c3 c4 (fun lv7 h7 V7 G7 x7 M7 k1 k2 k3 k4 k5 k6 q7 y0 y1 y2 y3 => ?_)
      refine s_wt40w M7 y0 y1 qv y2 qa y3 q7 (by omega) (by omega) (fun c => absurd c (by decide)) (fun x8 q8 lv8 z0 z1 z2 z3 z4 _ _ _ _ => ?_) (fun _ _ _ _ _ _ _ _ _ c9 _ _ => absurd c9 (by decide))
      rw [Int.toNat_natCast, k1 40 (by decide), eK 40 (by decide), (PA v hv).2] at q8
      refine l_wtp (l := 0) M7 hw (by omega) qv qa q7 (by decide) (by decide) q8 b0 b1 (fun c => absurd v0 c) (by decide) (by decide) (fun c => absurd eb c) (by rw [k5, g0, ea, wg, if_pos rfl]; decide) z0 z1 z2 z3 z4 (fun lv9 h9 V9 G9 x9 M9 n1 n2 n3 n4 n5 n6 q9 u0 u1 u2 u3 => ?_)
      refine s_wt40w M9 u0 u1 qv u2 qa u3 q9 (by omega) (by omega) (fun _ => ?_) (fun _ _ _ _ _ _ _ _ c9 _ _ _ => absurd c9 (by decide)) (fun _ _ _ _ _ _ _ _ c9 _ _ _ => absurd c9 (by decide))
      refine g h9 V9 G9 M9 (fun K hK => by rw [n1 K hK, k1 K hK, eK K hK]) (rc_S (wf_ca o) hv I (fun u hu => absurd hu (by omega)) ?_ bW) (rc_S (mf_ca o) hv J (fun u hu => absurd hu (by omega)) ?_ bM)
      · show (G9 65 v).toInt = _
        rw [n5, k5, g0, wf, if_neg nv, ea, eb, wg, wg, if_pos rfl, if_pos rfl, wg, if_pos rfl]
        rfl
      · have e7 : V7 66 v = -1 := by
          rcases k6 with ⟨-, k⟩ | ⟨k, -⟩
          · rw [k, m0]
          · exact absurd ea k
        have e9 : V9 66 v = -1 := by
          rcases n6 with ⟨-, k⟩ | ⟨k, -⟩
          · rw [k, e7]
          · exact absurd eb k
        rw [e9, mf, if_neg nv, ea, eb, aw_g, if_pos rfl]
        rfl
    · have l2 := lB (v - 1) (by omega)
      have wA := wg_R (fun u => (G 65 u).toInt) (ry_a Y v)
      have wBB := wg_R (fun u => (G 65 u).toInt) (ry_b Y v)
      have tA := fun c => tel (ry_a Y v) c a0 a1
      have tB := fun c => tel (ry_b Y v) c b0 b1
      refine s_wt40w M3 d0 d1 qv d2 qa d3 q4 (by omega) (by omega) (fun c => absurd c (by decide)) (fun _ _ _ _ _ _ _ _ _ c9 _ _ => absurd rfl c9) (fun x5 q5 lv6 c0 c1 c2 c3 c4 _ _ _ _ => ?_)
      rw [Int.toNat_natCast, eK 39 (by decide), (PA v hv).1] at q5
      have eqA : ∀ p : Int, p ≠ -1 → -1 ≤ p → p < (v : Int) → G1 65 p.toNat = G 65 p.toNat ∧ V3 66 p.toNat = V 66 p.toNat := fun p c h0 h1 => ⟨eG _ (by omega), eV _ (by omega)⟩
      refine l_wtp (l := ry_l Y (v - 1)) M3 hw (by omega) qv qa q4 (by decide) (by decide) q5 a0 a1 (lv0 V3 eK) l2.1 l2.2 (fun c => ?_) (by rw [g0]; decide) c0 c1 c2 c3 c4 (fun lv7 h7 V7 G7 x7 M7 k1 k2 k3 k4 k5 k6 q7 y0 y1 y2 y3 => ?_)
      · obtain ⟨e1, e2⟩ := eqA _ c a0 a1
        rw [e1, e2]
        have := tA c
        exact ⟨this.1, ⟨this.2.1.1, by omega⟩, this.2.2⟩
      have wA' : wg (fun u => (G1 65 u).toInt) (ry_a Y v) = wg (fun u => (G 65 u).toInt) (ry_a Y v) := wg_C (v := v) (fun u hu => by show (G1 65 u).toInt = _; rw [eG u (by omega)]) a0 a1
      rw [wA', g0] at k5
      have eqB : ∀ p : Int, p ≠ -1 → -1 ≤ p → p < (v : Int) → G7 65 p.toNat = G 65 p.toNat ∧ V7 66 p.toNat = V 66 p.toNat := fun p c h0 h1 => ⟨by rw [k3 _ (by omega), eG _ (by omega)], by rw [k2 _ (by omega), eV _ (by omega)]⟩
      refine s_wt40w M7 y0 y1 qv y2 qa y3 q7 (by omega) (by omega) (fun c => absurd c (by decide)) (fun x8 q8 lv8 z0 z1 z2 z3 z4 _ _ _ _ => ?_) (fun _ _ _ _ _ _ _ _ _ c9 _ _ => absurd c9 (by decide))
      rw [Int.toNat_natCast, k1 40 (by decide), eK 40 (by decide), (PA v hv).2] at q8
      refine l_wtp (l := ry_l Y (v - 1)) M7 hw (by omega) qv qa q7 (by decide) (by decide) q8 b0 b1 (lv0 V7 (fun K hK => by rw [k1 K hK, eK K hK])) l2.1 l2.2 (fun c => ?_) ?_ z0 z1 z2 z3 z4 (fun lv9 h9 V9 G9 x9 M9 n1 n2 n3 n4 n5 n6 q9 u0 u1 u2 u3 => ?_)
      · obtain ⟨e1, e2⟩ := eqB _ c b0 b1
        rw [e1, e2]
        have := tB c
        exact ⟨this.1, ⟨this.2.1.1, by omega⟩, this.2.2⟩
      · rw [k5]
        rcases wA with ⟨-, w⟩ | ⟨c, w⟩
        · rw [w]
          decide
        · have := tA c
          have w : wg (fun u => (G 65 u).toInt) (ry_a Y v) = (G 65 (ry_a Y v).toNat).toInt := w
          rw [w]
          omega
      have wB' : wg (fun u => (G7 65 u).toInt) (ry_b Y v) = wg (fun u => (G 65 u).toInt) (ry_b Y v) := wg_C (v := v) (fun u hu => by show (G7 65 u).toInt = (G 65 u).toInt; rw [k3 u (by omega), eG u (by omega)]) b0 b1
      rw [wB', k5] at n5
      refine s_wt40w M9 u0 u1 qv u2 qa u3 q9 (by omega) (by omega) (fun _ => ?_) (fun _ _ _ _ _ _ _ _ c9 _ _ _ => absurd c9 (by decide)) (fun _ _ _ _ _ _ _ _ c9 _ _ _ => absurd c9 (by decide))
      refine g h9 V9 G9 M9 (fun K hK => by rw [n1 K hK, k1 K hK, eK K hK]) (rc_S (wf_ca o) hv I (fun u hu => by show (G9 65 u).toInt = (G 65 u).toInt; rw [n3 u (by omega), k3 u (by omega), eG u (by omega)]) ?_ bW) (rc_S (mf_ca o) hv J (fun u hu => by rw [n2 u (by omega), k2 u (by omega), eV u (by omega)]) ?_ bM)
      · show (G9 65 v).toInt = _
        rw [n5, wf, if_neg nv]
        omega
      · rw [mf, if_neg nv]
        have gA := aw_gR (V 66) (ry_a Y v)
        have gB := aw_gR (V 66) (ry_b Y v)
        have m1 := mm_R (aw_g (V 66) (ry_a Y v)) (aw_g (V 66) (ry_b Y v))
        have m2 := mj_R (mm (aw_g (V 66) (ry_a Y v)) (aw_g (V 66) (ry_b Y v))) (ry_l Y (v - 1))
        have sA : ry_a Y v ≠ -1 → V3 66 (ry_a Y v).toNat = V 66 (ry_a Y v).toNat := fun c => (eqA _ c a0 a1).2
        have sB : ry_b Y v ≠ -1 → V7 66 (ry_b Y v).toNat = V 66 (ry_b Y v).toNat := fun c => (eqB _ c b0 b1).2
        have r1 := mm_R (V3 66 v) (V3 66 (ry_a Y v).toNat + ry_l Y (v - 1))
        have r2 := mm_R (V7 66 v) (V7 66 (ry_b Y v).toNat + ry_l Y (v - 1))
        have bA : ry_a Y v ≠ -1 → -1 ≤ V 66 (ry_a Y v).toNat := fun c => (tA c).2.1.1
        have bB : ry_b Y v ≠ -1 → -1 ≤ V 66 (ry_b Y v).toNat := fun c => (tB c).2.1.1
        omega
theorem s_wy0 {r a b w : Int} (M : MX 49 W ρ m A h0 h F V G) (e0 : m_lk lv 0 = some (.ref m)) {lx1 : Int32} (e1 : m_lk lv 1 = some (.int lx1)) (lq1 : lx1.toInt = r) {lx2 : Int32} (e2 : m_lk lv 2 = some (.int lx2)) (lq2 : lx2.toInt = a) {lx3 : Int32} (e3 : m_lk lv 3 = some (.int lx3)) (lq3 : lx3.toInt = b) {lx4 : Int32} (e4 : m_lk lv 4 = some (.int lx4)) (lq4 : lx4.toInt = w) (hw : d_sub [(49, 0)] W = true)
    (g0 : ∀ h2 : MH, ∀ F2 : Nat → Int, F2 = m_u F 0 (0) → MX 49 W ρ m A h0 h2 F2 V G → HJ 240 0 (lv_args 0 [.ref m, .int lx1, .int lx2, .int lx3]) [] h2 (fun v h' => HJ 280 12 lv (v.toList ++ []) h' Q))
    : HJ 280 0 lv [] h Q := by
  refine hI_al (k := 0) rfl e0 rfl ?_ -- 0
  refine hM_ic (n := 0) rfl (by decide) rfl (fun x1 q1 => ?_) -- 1
  refine hM_pi M (by decide) ok_49 rfl rfl (k := 0) (c := 9) (lo := (-2147483648)) (hi := 2147483647) rfl rfl ⟨by decide, by decide +kernel, rfl⟩ rfl (d_subm hw (by decide +kernel)) q1 (by omega) (by omega) rfl (fun h2 F2 f2 M2 => ?_) -- 2
  refine hI_al (k := 0) rfl e0 rfl ?_ -- 5
  refine hI_il (k := 1) rfl e1 rfl ?_ -- 6
  refine hI_il (k := 2) rfl e2 rfl ?_ -- 7
  refine hI_il (k := 3) rfl e3 rfl ?_ -- 8
  refine hM_iv M2 (by decide) rfl rfl (by decide) (as := [.int lx1, .int lx2, .int lx3]) (r := []) rfl rfl (by decide +kernel) rfl (by decide +kernel) rfl rfl rfl rfl rfl ?_ -- 9
  exact g0 h2 F2 f2 M2
theorem s_wy12 {r a b w z : Int} (M : MX 49 W ρ m A h0 h F V G) (e0 : m_lk lv 0 = some (.ref m)) {lx1 : Int32} (e1 : m_lk lv 1 = some (.int lx1)) (lq1 : lx1.toInt = r) {lx2 : Int32} (e2 : m_lk lv 2 = some (.int lx2)) (lq2 : lx2.toInt = a) {lx3 : Int32} (e3 : m_lk lv 3 = some (.int lx3)) (lq3 : lx3.toInt = b) {lx4 : Int32} (e4 : m_lk lv 4 = some (.int lx4)) (lq4 : lx4.toInt = w) {sx0 : Int32} (sq0 : sx0.toInt = z) 
    (g0 : ∀ x1 : Int32, x1.toInt = 0 → ∀ lv2 : List (Nat × Value), m_lk lv2 0 = some (.ref m) → m_lk lv2 2 = some (.int lx2) → m_lk lv2 3 = some (.int lx3) → m_lk lv2 4 = some (.int lx4) → m_lk lv2 5 = some (.int x1) → z ≠ 0 → HJ 280 22 lv2 [] h Q)
    (g1 : z = 0 → Q (some (.long (-1))) h)
    : HJ 280 12 lv [.int sx0] h Q := by
  refine hM_zne (off := 7) (t := 19) rfl sq0 (by decide) rfl (fun c12 => ?_) (fun c12 => ?_) -- 12
  · refine hM_ic (n := 0) rfl (by decide) rfl (fun x1 q1 => ?_) -- 19
    refine hM_si2 (k := 5) rfl (by decide +kernel) rfl (fun lv2 e2_5 u2 => ?_) -- 20
    have e2_0 := u2 0 _ (by decide) (Or.inl rfl) e0
    have e2_1 := u2 1 _ (by decide) (Or.inl rfl) e1
    have e2_2 := u2 2 _ (by decide) (Or.inl rfl) e2
    have e2_3 := u2 3 _ (by decide) (Or.inl rfl) e3
    have e2_4 := u2 4 _ (by decide) (Or.inl rfl) e4
    exact g0 x1 q1 lv2 e2_0 e2_2 e2_3 e2_4 e2_5 c12
  · refine hM_jc (x := (-1)) rfl rfl rfl ?_ -- 15
    refine hI_rl rfl rfl ?_
    exact g1 c12
theorem s_wy22 {a b w v : Int} (M : MX 49 W ρ m A h0 h F V G) (e0 : m_lk lv 0 = some (.ref m)) {lx2 : Int32} (e2 : m_lk lv 2 = some (.int lx2)) (lq2 : lx2.toInt = a) {lx3 : Int32} (e3 : m_lk lv 3 = some (.int lx3)) (lq3 : lx3.toInt = b) {lx4 : Int32} (e4 : m_lk lv 4 = some (.int lx4)) (lq4 : lx4.toInt = w) {lx5 : Int32} (e5 : m_lk lv 5 = some (.int lx5)) (lq5 : lx5.toInt = v) 
    (g0 : 0 ≤ F 35 → F 35 ≤ 41 → v ≥ F 35 → HJ 280 44 lv [] h Q)
    (g1 : 0 ≤ F 35 → F 35 ≤ 41 → v < F 35 → HJ 281 0 (lv_args 0 [.ref m, .int lx5, .int lx2]) [] h (fun v h' => HJ 280 38 lv (v.toList ++ []) h' Q))
    : HJ 280 22 lv [] h Q := by
  refine hI_il2 (k := 5) rfl e5 rfl ?_ -- 22
  refine hI_al (k := 0) rfl e0 rfl ?_ -- 24
  refine hM_gi M (by decide) rfl rfl rfl (k := 35) (c := 9) (lo := 0) (hi := 41) rfl rfl rfl rfl rfl (fun x1 q1 a1 b1 => ?_) -- 25
  refine hM_cge (off := 16) (t := 44) rfl lq5 q1 (by decide) rfl (fun c28 => ?_) (fun c28 => ?_) -- 28
  · exact g0 a1 b1 c28
  · refine hI_al (k := 0) rfl e0 rfl ?_ -- 31
    refine hI_il2 (k := 5) rfl e5 rfl ?_ -- 32
    refine hI_il (k := 2) rfl e2 rfl ?_ -- 34
    refine hM_iv M (by decide) rfl rfl (by decide) (as := [.int lx5, .int lx2]) (r := []) rfl rfl (by decide +kernel) rfl (by decide +kernel) rfl rfl rfl rfl rfl ?_ -- 35
    exact g1 a1 b1 c28
theorem s_wy38 {a b w v : Int} (M : MX 49 W ρ m A h0 h F V G) (e0 : m_lk lv 0 = some (.ref m)) {lx2 : Int32} (e2 : m_lk lv 2 = some (.int lx2)) (lq2 : lx2.toInt = a) {lx3 : Int32} (e3 : m_lk lv 3 = some (.int lx3)) (lq3 : lx3.toInt = b) {lx4 : Int32} (e4 : m_lk lv 4 = some (.int lx4)) (lq4 : lx4.toInt = w) {lx5 : Int32} (e5 : m_lk lv 5 = some (.int lx5)) (lq5 : lx5.toInt = v) (v0 : 0 ≤ v) (v1 : v ≤ 40)
    (g0 : ∀ x1 : Int32, x1.toInt = v + 1 → ∀ lv1 : List (Nat × Value), m_lk lv1 0 = some (.ref m) → m_lk lv1 2 = some (.int lx2) → m_lk lv1 3 = some (.int lx3) → m_lk lv1 4 = some (.int lx4) → m_lk lv1 5 = some (.int x1) → HJ 280 22 lv1 [] h Q)
    : HJ 280 38 lv [] h Q := by
  refine hM_inc (k := 5) (z := 1) rfl e5 lq5 (by decide) (by omega) (by omega) (by decide +kernel) rfl (fun lv1 x1 q1 e1_5 u1 => ?_) -- 38
  have e1_0 := u1 0 _ (by decide) (Or.inl rfl) e0
  have e1_2 := u1 2 _ (by decide) (Or.inl rfl) e2
  have e1_3 := u1 3 _ (by decide) (Or.inl rfl) e3
  have e1_4 := u1 4 _ (by decide) (Or.inl rfl) e4
  refine hI_go (pc' := 22) (off := (-19)) rfl (by decide) ?_ -- 41
  exact g0 x1 q1 lv1 e1_0 e1_2 e1_3 e1_4 e1_5
theorem s_wy44 {b w : Int} (M : MX 49 W ρ m A h0 h F V G) (e0 : m_lk lv 0 = some (.ref m)) {lx3 : Int32} (e3 : m_lk lv 3 = some (.int lx3)) (lq3 : lx3.toInt = b) {lx4 : Int32} (e4 : m_lk lv 4 = some (.int lx4)) (lq4 : lx4.toInt = w) (b0 : 0 ≤ b) (b1 : b ≤ 40)
    (g0 : (lg_cmp (G 65 (b).toNat) (Int64.ofNat (0 : Fin 2).val)).toInt ≠ 0 → w = 0 → Q (some (.long (Int32.ofInt (V 66 (b).toNat)).toInt64)) h)
    (g1 : (lg_cmp (G 65 (b).toNat) (Int64.ofNat (0 : Fin 2).val)).toInt ≠ 0 → w ≠ 0 → Q (some (.long (G 65 (b).toNat))) h)
    (g2 : (lg_cmp (G 65 (b).toNat) (Int64.ofNat (0 : Fin 2).val)).toInt = 0 → Q (some (.long (-1))) h)
    : HJ 280 44 lv [] h Q := by
  refine hI_al (k := 0) rfl e0 rfl ?_ -- 44
  refine hM_ga M (by decide) rfl rfl (k := 65) (c := 9) rfl rfl rfl (by decide +kernel) rfl ?_ -- 45
  refine hI_il (k := 3) rfl e3 rfl ?_ -- 48
  refine hM_la M (by decide) (K := 65) (R2 := 94) (L := 41) (H := 41) rfl (by decide) rfl rfl rfl lq3 (by omega) (by omega) rfl ?_ -- 49
  refine hI_lc (n := 0) rfl rfl ?_ -- 50
  refine hM_lcmp rfl rfl (fun x2 q2 => ?_) -- 51
  refine hM_zne (off := 9) (t := 61) rfl q2 (by decide) rfl (fun c52 => ?_) (fun c52 => ?_) -- 52
  · refine hI_il2 (k := 4) rfl e4 rfl ?_ -- 61
    refine hM_zeq (off := 12) (t := 75) rfl lq4 (by decide) rfl (fun c63 => ?_) (fun c63 => ?_) -- 63
    · refine hI_al (k := 0) rfl e0 rfl ?_ -- 75
      refine hM_ga M (by decide) rfl rfl (k := 66) (c := 9) rfl rfl rfl (by decide +kernel) rfl ?_ -- 76
      refine hI_il (k := 3) rfl e3 rfl ?_ -- 79
      refine hM_ia M (by decide) (K := 66) (R2 := 95) (L := 41) (H := 41) (lo := (-2147483648)) (hi := 2147483647) rfl (by decide) rfl rfl (fun _ => rfl) rfl lq3 (by omega) (by omega) rfl (fun x3 q3 a3 b3 => ?_) -- 80
      refine hM_i2l rfl q3 rfl ?_ -- 81
      refine hI_rl rfl rfl ?_
      exact g0 c52 c63
    · refine hI_al (k := 0) rfl e0 rfl ?_ -- 66
      refine hM_ga M (by decide) rfl rfl (k := 65) (c := 9) rfl rfl rfl (by decide +kernel) rfl ?_ -- 67
      refine hI_il (k := 3) rfl e3 rfl ?_ -- 70
      refine hM_la M (by decide) (K := 65) (R2 := 94) (L := 41) (H := 41) rfl (by decide) rfl rfl rfl lq3 (by omega) (by omega) rfl ?_ -- 71
      refine hI_go (pc' := 82) (off := 10) rfl (by decide) ?_ -- 72
      refine hI_rl rfl rfl ?_
      exact g1 c52 c63
  · refine hM_jc (x := (-1)) rfl rfl rfl ?_ -- 55
    refine hI_go (pc' := 82) (off := 24) rfl (by decide) ?_ -- 58
    refine hI_rl rfl rfl ?_
    exact g2 c52
theorem l_mway {Y : RYt} {k a b : Nat} {xa xb xw : Int32} {V0 : Nat → Nat → Int} (o : ry_ok Y k) (hw : d_sub [(94, 1001), (95, 1001)] W = true) (fv : F 35 = (ry_v Y : Int)) (v41 : ry_v Y ≤ 41) (bv : b < ry_v Y) (qa : xa.toInt = (a : Int)) (qb : xb.toInt = (b : Int)) (PA : ∀ u, u < ry_v Y → V0 39 u = ry_a Y u ∧ V0 40 u = ry_b Y u) (PL : ∀ j, j + 1 < ry_v Y → V0 38 j = ry_l Y j) (lB : ∀ j, j + 1 < ry_v Y → 0 ≤ ry_l Y j ∧ ry_l Y j ≤ 15120) (g : ∀ (h' : MH) (V' : Nat → Nat → Int) (G' : Nat → Nat → Int64) (x : Int64), MX 49 W ρ m A h0 h' F V' G' → (∃ W D, rc_of (wf Y a) wB W (ry_v Y) ∧ rc_of (mf Y a) mB D (ry_v Y) ∧ wy_a W D b xw.toInt x.toInt) → Q (some (.long x)) h') : ∀ (d v : Nat) (lv : List (Nat × Value)) (h : MH) (V : Nat → Nat → Int) (G : Nat → Nat → Int64) (xv : Int32), v + d = ry_v Y → MX 49 W ρ m A h0 h F V G → (∀ K, K ≠ 66 → V K = V0 K) → rc_of (wf Y a) wB (fun u => (G 65 u).toInt) v → rc_of (mf Y a) mB (V 66) v → xv.toInt = (v : Int) → m_lk lv 0 = some (.ref m) → m_lk lv 2 = some (.int xa) → m_lk lv 3 = some (.int xb) → m_lk lv 4 = some (.int xw) → m_lk lv 5 = some (.int xv) → HJ 280 22 lv [] h Q := by
  intro d
  induction d with
  | zero =>
    intro v lv h V G xv hd M vo I J qv e0 e2 e3 e4 e5
    have ev : v = ry_v Y := by omega
    subst ev
    have z0 : (Int64.ofNat (0 : Fin 2).val).toInt = 0 := by decide
    have bJ := (J b bv).2
    have eq0 : (lg_cmp (G 65 ((b : Int)).toNat) (Int64.ofNat (0 : Fin 2).val)).toInt = 0 ↔ (G 65 b).toInt = 0 := by
      rw [lg_0, ← Int64.toInt_inj, z0]
      exact Iff.rfl
    have fin : ∀ x : Int64, wy_a (fun u => (G 65 u).toInt) (V 66) b xw.toInt x.toInt → Q (some (.long x)) h := fun x hx => g h V G x M ⟨_, _, I, J, hx⟩
    refine s_wy22 M e0 e2 qa e3 qb e4 rfl e5 qv (fun _ _ _ => ?_) (fun _ _ c => absurd c (by omega))
    refine s_wy44 M e0 e3 qb e4 rfl (by omega) (by omega) (fun c cw => fin _ (Or.inr (Or.inr ⟨fun w => c (eq0.mpr w), cw, ?_⟩))) (fun c cw => fin _ (Or.inr (Or.inl ⟨fun w => c (eq0.mpr w), cw, rfl⟩))) (fun c => fin _ (Or.inl ⟨eq0.mp c, j_m1⟩))
    have b1 := bJ.1
    have b2 := bJ.2
    rw [Int.toNat_natCast]
    exact j_ofn (by omega) (by omega)
  | succ d ih =>
    intro v lv h V G xv hd M vo I J qv e0 e2 e3 e4 e5
    refine s_wy22 M e0 e2 qa e3 qb e4 rfl e5 qv (fun _ _ c => absurd c (by omega)) (fun _ _ _ => ?_)
    refine c_wto M o hw v41 (by omega) qv qa (fun u hu => by rw [vo 39 (by decide), vo 40 (by decide)]; exact PA u hu) (fun j hj => by rw [vo 38 (by decide)]; exact PL j hj) lB I J (fun h2 V2 G2 M2 k1 I2 J2 => ?_)
    show HJ 280 38 lv [] h2 Q
    exact s_wy38 M2 e0 e2 qa e3 qb e4 rfl e5 qv (by omega) (by omega) (fun x1 q1 lv1 a0 a2 a3 a4 a5 => ih (v + 1) lv1 h2 V2 G2 x1 (by omega) M2 (fun K hK => by rw [k1 K hK, vo K hK]) I2 J2 (by omega) a0 a2 a3 a4 a5)
def g_wy : List (Nat × Nat) := (94, 1001) :: (95, 1001) :: (49, 0) :: g_la
theorem c_mway {Y : RYt} {r a b : Int} {xr xa xb xw : Int32} (M : MX 49 W ρ m A h0 h F V G) (hw : d_sub g_wy W = true) (qr : xr.toInt = r) (qa : xa.toInt = a) (qb : xb.toInt = b) (rw_ : p_rw (V 6)) (ok : lay_ok (V 5 0) (V 6) r Y) (lB : 0 ≤ r → r < V 5 0 → ∀ j, j + 1 < ry_v Y → 0 ≤ ry_l Y j ∧ ry_l Y j ≤ 15120) (g : ∀ (x : Int64) (h' : MH) (F' : Nat → Int) (V' : Nat → Nat → Int) (G' : Nat → Nat → Int64), MX 49 W ρ m A h0 h' F' V' G' → wy_q Y (0 ≤ r ∧ r < V 5 0) a b xw.toInt x → Q (some (.long x)) h') : HJ 280 0 (lv_args 0 [.ref m, .int xr, .int xa, .int xb, .int xw]) [] h Q := by
  refine s_wy0 M rfl rfl qr rfl qa rfl qb rfl rfl (d_subm hw (by decide +kernel)) (fun h2 F2 f2 M2 => ?_)
  refine c_layTY M2 (d_subm hw (by decide +kernel)) qr qa qb rw_ ok (fun x h3 F3 V3 G3 M3 hx => ?_)
  show HJ 280 12 _ [.int x] h3 Q
  refine s_wy12 (z := x.toInt) M3 rfl rfl qr rfl qa rfl qb rfl rfl rfl (fun x1 q1 lv4 a0 a2 a3 a4 a5 c => ?_) (fun c => ?_)
  · obtain ⟨-, w, l⟩ := hx.resolve_left (fun z => c z.1)
    obtain ⟨v1, v2, v3⟩ := laid_v l
    obtain ⟨w1, ⟨w2, w3⟩, w4, w5⟩ := w
    obtain ⟨⟨n, n40, o⟩, y, -, -⟩ := l
    refine l_mway (V0 := V3) (a := a.toNat) (b := b.toNat) o (d_subm hw (by decide +kernel)) v1 v3 (by omega) (by omega) (by omega) (fun u hu => y.2.2.2.2.1 u hu) (fun j hj => (y.2.2.2.2.2 j hj).2) (lB w1.1 w1.2) (fun h4 V4 G4 z M4 hz => ?_) (ry_v Y) 0 lv4 h3 V3 G3 x1 (by omega) M3 (fun _ _ => rfl) (fun _ c => absurd c (Nat.not_lt_zero _)) (fun _ c => absurd c (Nat.not_lt_zero _)) q1 a0 a2 a3 a4 a5
    obtain ⟨W1, D1, d1, d2, d3⟩ := hz
    exact g z h4 F3 V4 G4 M4 (Or.inr ⟨⟨w1, ⟨w2, w3⟩, w4, w5⟩, W1, D1, fun u hu => d1 u (by omega), fun u hu => d2 u (by omega), d3⟩)
  · rcases hx with hx | hx
    · exact g _ h3 F3 V3 G3 M3 (Or.inl ⟨hx.2, rfl⟩)
    · omega
end
-- the class's side: first places, and that such rows are
theorem wf_I {Y : RYt} {k a : Nat} {D : Nat → Int} (o : ry_ok Y k) (ha : a < ry_v Y) (e0 : ∀ u, u < a → D u = 0) (e1 : D a = 1) : rc_of (wf Y a) wB D (a + 1) := fun u hu => by
  by_cases e : u = a
  · subst e
    rw [wf, if_pos rfl, e1]
    exact ⟨rfl, by decide, by have : 1 ≤ 2 ^ u := Nat.one_le_two_pow; omega⟩
  · obtain ⟨⟨a0, a1⟩, b0, b1⟩ := o.2.2 u (by omega)
    have g : ∀ p : Int, -1 ≤ p → p < (u : Int) → wg D p = 0 := fun p p0 p1 => by
      unfold wg
      split
      · rfl
      · exact e0 _ (by omega)
    rw [wf, if_neg e, g _ a0 a1, g _ b0 b1, e0 u (by omega)]
    exact ⟨rfl, by decide, Int.natCast_nonneg _⟩
theorem mf_I {Y : RYt} {k a : Nat} {D : Nat → Int} (o : ry_ok Y k) (ha : a < ry_v Y) (e0 : ∀ u, u < a → D u = -1) (e1 : D a = 0) : rc_of (mf Y a) mB D (a + 1) := fun u hu => by
  by_cases e : u = a
  · subst e
    rw [mf, if_pos rfl, e1]
    exact ⟨rfl, by decide, by omega⟩
  · obtain ⟨⟨a0, a1⟩, b0, b1⟩ := o.2.2 u (by omega)
    have g : ∀ p : Int, -1 ≤ p → p < (u : Int) → aw_g D p = -1 := fun p p0 p1 => by
      unfold aw_g
      split
      · rfl
      · exact e0 _ (by omega)
    rw [mf, if_neg e, g _ a0 a1, g _ b0 b1, e0 u (by omega)]
    exact ⟨rfl, by decide, by omega⟩
theorem wf_ex {Y : RYt} {k a : Nat} (o : ry_ok Y k) : ∀ n, n ≤ ry_v Y → ∃ D, rc_of (wf Y a) wB D n
  | 0, _ => ⟨fun _ => 0, fun _ c => absurd c (Nat.not_lt_zero _)⟩
  | n + 1, h => by
    obtain ⟨D, I⟩ := wf_ex o n (by omega)
    exact ⟨m_u D n (wf Y a D n), rc_S (wf_ca o) h I (fun u hu => m_uN _ _ _ _ (by omega)) (m_uE _ _ _) (wf_B o h I)⟩
theorem mf_ex {Y : RYt} {k a : Nat} (o : ry_ok Y k) (l : ∀ j, j + 1 < ry_v Y → 0 ≤ ry_l Y j ∧ ry_l Y j ≤ 15120) : ∀ n, n ≤ ry_v Y → ∃ D, rc_of (mf Y a) mB D n
  | 0, _ => ⟨fun _ => 0, fun _ c => absurd c (Nat.not_lt_zero _)⟩
  | n + 1, h => by
    obtain ⟨D, I⟩ := mf_ex o l n (by omega)
    exact ⟨m_u D n (mf Y a D n), rc_S (mf_ca o) h I (fun u hu => m_uN _ _ _ _ (by omega)) (m_uE _ _ _) (mf_B o h l I)⟩
def wc (x : Int) : Int := if x < 0 then 0 else x
theorem wc_R (x : Int) : (x < 0 ∧ wc x = 0) ∨ (0 ≤ x ∧ wc x = x) := by
  unfold wc
  split <;> omega
section
variable {lv : List (Nat × Value)} {Q : Option Value → MH → Prop} {W : List (Nat × Nat)} {ρ : Nat → Nat} {m : Nat} {A : Nat → Nat} {h0 h : MH} {F : Nat → Int} {V : Nat → Nat → Int} {G : Nat → Nat → Int64}
theorem s_hw0 {a b : Int} (M : MX 42 W ρ m A h0 h F V G) (e0 : m_lk lv 0 = some (.ref m)) {lx1 : Int32} (e1 : m_lk lv 1 = some (.int lx1)) (lq1 : lx1.toInt = a) {lx2 : Int32} (e2 : m_lk lv 2 = some (.int lx2)) (lq2 : lx2.toInt = b) 
    (g0 : HJ 131 0 (lv_args 0 [.ref m, .int lx2, .int lx1]) [] h (fun v h' => HJ 142 6 lv (v.toList ++ []) h' Q))
    : HJ 142 0 lv [] h Q := by
  refine hI_al (k := 0) rfl e0 rfl ?_ -- 0
  refine hI_il (k := 2) rfl e2 rfl ?_ -- 1
  refine hI_il (k := 1) rfl e1 rfl ?_ -- 2
  refine hM_iv M (by decide) rfl rfl (by decide) (as := [.int lx2, .int lx1]) (r := []) rfl rfl (by decide +kernel) rfl (by decide +kernel) rfl rfl rfl rfl rfl ?_ -- 3
  exact g0 
theorem s_hw6 {a b z : Int} (M : MX 42 W ρ m A h0 h F V G) (e0 : m_lk lv 0 = some (.ref m)) {lx1 : Int32} (e1 : m_lk lv 1 = some (.int lx1)) (lq1 : lx1.toInt = a) {lx2 : Int32} (e2 : m_lk lv 2 = some (.int lx2)) (lq2 : lx2.toInt = b) {sx0 : Int32} (sq0 : sx0.toInt = z) 
    (g0 : z ≠ 0 → HJ 134 0 (lv_args 0 [.ref m, .int lx1]) [] h (fun v h' => HJ 142 18 lv (v.toList ++ []) h' Q))
    (g1 : z = 0 → Q (some (.long (-1))) h)
    : HJ 142 6 lv [.int sx0] h Q := by
  refine hM_zne (off := 7) (t := 13) rfl sq0 (by decide) rfl (fun c6 => ?_) (fun c6 => ?_) -- 6
  · refine hI_al (k := 0) rfl e0 rfl ?_ -- 13
    refine hI_il (k := 1) rfl e1 rfl ?_ -- 14
    refine hM_iv M (by decide) rfl rfl (by decide) (as := [.int lx1]) (r := []) rfl rfl (by decide +kernel) rfl (by decide +kernel) rfl rfl rfl rfl rfl ?_ -- 15
    exact g0 c6
  · refine hM_jc (x := (-1)) rfl rfl rfl ?_ -- 9
    refine hI_rl rfl rfl ?_
    exact g1 c6
theorem s_hw18 {a b : Int} (M : MX 42 W ρ m A h0 h F V G) (e0 : m_lk lv 0 = some (.ref m)) {lx1 : Int32} (e1 : m_lk lv 1 = some (.int lx1)) (lq1 : lx1.toInt = a) {lx2 : Int32} (e2 : m_lk lv 2 = some (.int lx2)) (lq2 : lx2.toInt = b) (a0 : 0 ≤ a) (a1 : a ≤ 40)(hw : d_sub [(46, 1001)] W = true)
    (g0 : ∀ h1 : MH, ∀ G1 : Nat → Nat → Int64, G1 = m_u G 3 (m_u (G 3) (a).toNat (Int64.ofNat (1 : Fin 2).val)) → ∀ x3 : Int32, x3.toInt = a + 1 → ∀ lv4 : List (Nat × Value), MX 42 W ρ m A h0 h1 F V G1 → m_lk lv4 0 = some (.ref m) → m_lk lv4 1 = some (.int lx1) → m_lk lv4 2 = some (.int lx2) → m_lk lv4 3 = some (.int x3) → HJ 142 29 lv4 [] h1 Q)
    : HJ 142 18 lv [] h Q := by
  refine hI_al (k := 0) rfl e0 rfl ?_ -- 18
  refine hM_ga M (by decide) rfl rfl (k := 3) (c := 1) rfl rfl rfl (by decide +kernel) rfl ?_ -- 19
  refine hI_il (k := 1) rfl e1 rfl ?_ -- 22
  refine hI_lc (n := 1) rfl rfl ?_ -- 23
  refine hM_ls M (by decide) ok_42 (K := 3) (R2 := 46) (L := 41) (H := 41) rfl (by decide) rfl rfl rfl (d_subm hw (by decide +kernel)) rfl lq1 (by omega) (by omega) rfl (fun h1 G1 f1 M1 => ?_) -- 24
  refine hI_il (k := 1) rfl e1 rfl ?_ -- 25
  refine hM_ic (n := 1) rfl (by decide) rfl (fun x2 q2 => ?_) -- 26
  refine hM_add rfl lq1 q2 (by omega) (by omega) rfl (fun x3 q3 => ?_) -- 27
  refine hM_si (k := 3) rfl (by decide +kernel) rfl (fun lv4 e4_3 u4 => ?_) -- 28
  have e4_0 := u4 0 _ (by decide) (Or.inl rfl) e0
  have e4_1 := u4 1 _ (by decide) (Or.inl rfl) e1
  have e4_2 := u4 2 _ (by decide) (Or.inl rfl) e2
  exact g0 h1 G1 f1 x3 q3 lv4 M1 e4_0 e4_1 e4_2 e4_3
theorem s_hw29 {a b v : Int} (M : MX 42 W ρ m A h0 h F V G) (e0 : m_lk lv 0 = some (.ref m)) {lx1 : Int32} (e1 : m_lk lv 1 = some (.int lx1)) (lq1 : lx1.toInt = a) {lx2 : Int32} (e2 : m_lk lv 2 = some (.int lx2)) (lq2 : lx2.toInt = b) {lx3 : Int32} (e3 : m_lk lv 3 = some (.int lx3)) (lq3 : lx3.toInt = v) (v0 : 0 ≤ v)
    (g0 : v > b → HJ 136 0 (lv_args 0 [.ref m, .int lx2]) [] h (fun v h' => HJ 142 86 lv (v.toList ++ []) h' Q))
    (g1 : v ≤ b → v ≥ 41 → HJ 136 0 (lv_args 0 [.ref m, .int lx2]) [] h (fun v h' => HJ 142 86 lv (v.toList ++ []) h' Q))
    (g2 : ∀ x2 : Int32, x2.toInt = V 0 (v).toNat → v ≤ b → v < 41 → HJ 136 0 (lv_args 0 [.ref m, .int x2]) [] h (fun v h' => HJ 142 56 lv (v.toList ++ [.long (Int64.ofNat (0 : Fin 2).val), .int lx3, .ref (A 3)]) h' Q))
    : HJ 142 29 lv [] h Q := by
  refine hI_il (k := 3) rfl e3 rfl ?_ -- 29
  refine hI_il (k := 2) rfl e2 rfl ?_ -- 30
  refine hM_cgt (off := 50) (t := 81) rfl lq3 lq2 (by decide) rfl (fun c31 => ?_) (fun c31 => ?_) -- 31
  · refine hI_al (k := 0) rfl e0 rfl ?_ -- 81
    refine hI_il (k := 2) rfl e2 rfl ?_ -- 82
    refine hM_iv M (by decide) rfl rfl (by decide) (as := [.int lx2]) (r := []) rfl rfl (by decide +kernel) rfl (by decide +kernel) rfl rfl rfl rfl rfl ?_ -- 83
    exact g0 c31
  · refine hI_il (k := 3) rfl e3 rfl ?_ -- 34
    refine hM_bp (n := 41) rfl (by decide) rfl (fun x1 q1 => ?_) -- 35
    refine hM_cge (off := 44) (t := 81) rfl lq3 q1 (by decide) rfl (fun c37 => ?_) (fun c37 => ?_) -- 37
    · refine hI_al (k := 0) rfl e0 rfl ?_ -- 81
      refine hI_il (k := 2) rfl e2 rfl ?_ -- 82
      refine hM_iv M (by decide) rfl rfl (by decide) (as := [.int lx2]) (r := []) rfl rfl (by decide +kernel) rfl (by decide +kernel) rfl rfl rfl rfl rfl ?_ -- 83
      exact g1 c31 c37
    · refine hI_al (k := 0) rfl e0 rfl ?_ -- 40
      refine hM_ga M (by decide) rfl rfl (k := 3) (c := 1) rfl rfl rfl (by decide +kernel) rfl ?_ -- 41
      refine hI_il (k := 3) rfl e3 rfl ?_ -- 44
      refine hI_lc (n := 0) rfl rfl ?_ -- 45
      refine hI_al (k := 0) rfl e0 rfl ?_ -- 46
      refine hI_al (k := 0) rfl e0 rfl ?_ -- 47
      refine hM_ga M (by decide) rfl rfl (k := 0) (c := 1) rfl rfl rfl (by decide +kernel) rfl ?_ -- 48
      refine hI_il (k := 3) rfl e3 rfl ?_ -- 51
      refine hM_ia M (by decide) (K := 0) (R2 := 43) (L := 41) (H := 41) (lo := (-2147483648)) (hi := 2147483647) rfl (by decide) rfl rfl (fun _ => rfl) rfl lq3 (by omega) (by omega) rfl (fun x2 q2 a2 b2 => ?_) -- 52
      refine hM_iv M (by decide) rfl rfl (by decide) (as := [.int x2]) (r := [.long (Int64.ofNat (0 : Fin 2).val), .int lx3, .ref (A 3)]) rfl rfl (by decide +kernel) rfl (by decide +kernel) rfl rfl rfl rfl rfl ?_ -- 53
      exact g2 x2 q2 c31 c37
theorem s_hw59 {a b v : Int} (M : MX 42 W ρ m A h0 h F V G) (e0 : m_lk lv 0 = some (.ref m)) {lx1 : Int32} (e1 : m_lk lv 1 = some (.int lx1)) (lq1 : lx1.toInt = a) {lx2 : Int32} (e2 : m_lk lv 2 = some (.int lx2)) (lq2 : lx2.toInt = b) {lx3 : Int32} (e3 : m_lk lv 3 = some (.int lx3)) (lq3 : lx3.toInt = v) {sx1 : Int32} (sq1 : sx1.toInt = v) {sx2 : Int64} (v0 : 0 ≤ v) (v1 : v ≤ 40)
    (g0 : ∀ x1 : Int32, x1.toInt = V 1 (v).toNat → HJ 136 0 (lv_args 0 [.ref m, .int x1]) [] h (fun v h' => HJ 142 70 lv (v.toList ++ [.long (Int64.ofNat (0 : Fin 2).val), .long sx2, .int sx1, .ref (A 3)]) h' Q))
    : HJ 142 59 lv [.long sx2, .int sx1, .ref (A 3)] h Q := by
  refine hI_lc (n := 0) rfl rfl ?_ -- 59
  refine hI_al (k := 0) rfl e0 rfl ?_ -- 60
  refine hI_al (k := 0) rfl e0 rfl ?_ -- 61
  refine hM_ga M (by decide) rfl rfl (k := 1) (c := 1) rfl rfl rfl (by decide +kernel) rfl ?_ -- 62
  refine hI_il (k := 3) rfl e3 rfl ?_ -- 65
  refine hM_ia M (by decide) (K := 1) (R2 := 44) (L := 41) (H := 41) (lo := (-2147483648)) (hi := 2147483647) rfl (by decide) rfl rfl (fun _ => rfl) rfl lq3 (by omega) (by omega) rfl (fun x1 q1 a1 b1 => ?_) -- 66
  refine hM_iv M (by decide) rfl rfl (by decide) (as := [.int x1]) (r := [.long (Int64.ofNat (0 : Fin 2).val), .long sx2, .int sx1, .ref (A 3)]) rfl rfl (by decide +kernel) rfl (by decide +kernel) rfl rfl rfl rfl rfl ?_ -- 67
  exact g0 x1 q1
theorem s_hw73 {a b v : Int} (M : MX 42 W ρ m A h0 h F V G) (e0 : m_lk lv 0 = some (.ref m)) {lx1 : Int32} (e1 : m_lk lv 1 = some (.int lx1)) (lq1 : lx1.toInt = a) {lx2 : Int32} (e2 : m_lk lv 2 = some (.int lx2)) (lq2 : lx2.toInt = b) {lx3 : Int32} (e3 : m_lk lv 3 = some (.int lx3)) (lq3 : lx3.toInt = v) {sx1 : Int32} (sq1 : sx1.toInt = v) {sx2 : Int64} {sx3 : Int64} (v0 : 0 ≤ v) (v1 : v ≤ 40)(hw : d_sub [(46, 1001)] W = true)
    (g0 : ∀ h1 : MH, ∀ G1 : Nat → Nat → Int64, G1 = m_u G 3 (m_u (G 3) (v).toNat (sx2 + sx3)) → ∀ x2 : Int32, x2.toInt = v + 1 → ∀ lv2 : List (Nat × Value), MX 42 W ρ m A h0 h1 F V G1 → m_lk lv2 0 = some (.ref m) → m_lk lv2 1 = some (.int lx1) → m_lk lv2 2 = some (.int lx2) → m_lk lv2 3 = some (.int x2) → HJ 142 29 lv2 [] h1 Q)
    : HJ 142 73 lv [.long sx3, .long sx2, .int sx1, .ref (A 3)] h Q := by
  refine hI_ladd rfl rfl ?_ -- 73
  refine hM_ls M (by decide) ok_42 (K := 3) (R2 := 46) (L := 41) (H := 41) rfl (by decide) rfl rfl rfl (d_subm hw (by decide +kernel)) rfl sq1 (by omega) (by omega) rfl (fun h1 G1 f1 M1 => ?_) -- 74
  refine hM_inc (k := 3) (z := 1) rfl e3 lq3 (by decide) (by omega) (by omega) (by decide +kernel) rfl (fun lv2 x2 q2 e2_3 u2 => ?_) -- 75
  have e2_0 := u2 0 _ (by decide) (Or.inl rfl) e0
  have e2_1 := u2 1 _ (by decide) (Or.inl rfl) e1
  have e2_2 := u2 2 _ (by decide) (Or.inl rfl) e2
  refine hI_go (pc' := 29) (off := (-49)) rfl (by decide) ?_ -- 78
  exact g0 h1 G1 f1 x2 q2 lv2 M1 e2_0 e2_1 e2_2 e2_3
theorem s_hw86 (M : MX 42 W ρ m A h0 h F V G) {sx0 : Int64} 
    (g0 : Q (some (.long sx0)) h)
    : HJ 142 86 lv [.long sx0] h Q := by
  refine hI_rl rfl rfl ?_
  exact g0 
theorem l_hw {Y : RYt} {k a b : Nat} {xa xb : Int32} (o : ry_ok Y k) (hw : d_sub [(46, 1001)] W = true) (v41 : ry_v Y ≤ 41) (bv : b < ry_v Y) (qa : xa.toInt = (a : Int)) (qb : xb.toInt = (b : Int)) (PA : ∀ u, u < ry_v Y → V 0 u = ry_a Y u ∧ V 1 u = ry_b Y u) (g : ∀ (h' : MH) (G' : Nat → Nat → Int64) (x : Int64), MX 42 W ρ m A h0 h' F V G' → (∃ D, rc_of (wf Y a) wB D (b + 1) ∧ (0 < D b → x.toInt = D b)) → Q (some (.long x)) h') : ∀ (d v : Nat) (lv : List (Nat × Value)) (h : MH) (G : Nat → Nat → Int64) (xv : Int32), b < v + d → v ≤ 42 → a < v → MX 42 W ρ m A h0 h F V G → rc_of (wf Y a) wB (fun u => wc (G 3 u).toInt) v → (∀ u, u < v → -1 ≤ (G 3 u).toInt) → xv.toInt = (v : Int) → m_lk lv 0 = some (.ref m) → m_lk lv 1 = some (.int xa) → m_lk lv 2 = some (.int xb) → m_lk lv 3 = some (.int xv) → HJ 142 29 lv [] h Q := by
  intro d
  have p40 : ∀ u, u ≤ 40 → ((2 ^ u : Nat) : Int) ≤ 1099511627776 := fun u hu => by
    have := Nat.pow_le_pow_right (n := 2) (by decide) hu
    have e : (2 : Nat) ^ 40 = 1099511627776 := by decide
    omega
  have fin : ∀ (v : Nat) (lv : List (Nat × Value)) (h : MH) (G : Nat → Nat → Int64), b < v → MX 42 W ρ m A h0 h F V G → rc_of (wf Y a) wB (fun u => wc (G 3 u).toInt) v → HJ 136 0 (lv_args 0 [.ref m, .int xb]) [] h (fun v h' => HJ 142 86 lv (v.toList ++ []) h' Q) := fun v lv h G hb M I => by
    refine c_tally M qb (by omega) (by omega) (fun x qx => ?_)
    show HJ 142 86 lv [.long x] h Q
    have e : aw_g (fun u => (G 3 u).toInt) (b : Int) = (G 3 b).toInt := if_neg (by omega)
    rw [e] at qx
    have r := wc_R (G 3 b).toInt
    refine s_hw86 M (g h G x M ⟨fun u => wc (G 3 u).toInt, fun u hu => I u (by omega), fun c => ?_⟩)
    have c : 0 < wc (G 3 b).toInt := c
    show x.toInt = wc (G 3 b).toInt
    omega
  induction d with
  | zero =>
    intro v lv h G xv hd hv hav M I J qv e0 e1 e2 e3
    exact s_hw29 M e0 e1 qa e2 qb e3 qv (by omega) (fun _ => fin v lv h G (by omega) M I) (fun _ _ => fin v lv h G (by omega) M I) (fun _ _ c _ => absurd c (by omega))
  | succ d ih =>
    intro v lv h G xv hd hv hav M I J qv e0 e1 e2 e3
    refine s_hw29 M e0 e1 qa e2 qb e3 qv (by omega) (fun _ => fin v lv h G (by omega) M I) (fun _ c => absurd c (by omega)) (fun x2 q2 c _ => ?_)
    have hv' : v < ry_v Y := by omega
    obtain ⟨⟨a0, a1⟩, b0, b1⟩ := o.2.2 v hv'
    rw [Int.toNat_natCast, (PA v hv').1] at q2
    have bW := wf_B o hv' I
    -- a parent's part, made at least 0
    have part : ∀ (p : Int) (x : Int64), -1 ≤ p → p < (v : Int) → x.toInt = aw_g (fun u => (G 3 u).toInt) p → (if x < Int64.ofNat (0 : Fin 2).val then Int64.ofNat (0 : Fin 2).val else x).toInt = wg (fun u => wc (G 3 u).toInt) p ∧ 0 ≤ wg (fun u => wc (G 3 u).toInt) p ∧ wg (fun u => wc (G 3 u).toInt) p ≤ 1099511627776 := fun p x p0 p1 qx => by
      have e := j_max (Int64.ofNat (0 : Fin 2).val) x
      have z0 : (Int64.ofNat (0 : Fin 2).val).toInt = 0 := by decide
      rw [e, z0, qx]
      have r1 := aw_gR (fun u => (G 3 u).toInt) p
      have r2 := wg_R (fun u => wc (G 3 u).toInt) p
      rcases r2 with ⟨c1, c2⟩ | ⟨c1, c2⟩
      · rw [c2, if_pos (by omega)]
        exact ⟨rfl, by decide, by decide⟩
      · have c2 : wg (fun u => wc (G 3 u).toInt) p = wc (G 3 p.toNat).toInt := c2
        have r3 := wc_R (G 3 p.toNat).toInt
        have r4 : aw_g (fun u => (G 3 u).toInt) p = (G 3 p.toNat).toInt := by
          rcases r1 with ⟨c3, -⟩ | ⟨-, c4⟩
          · exact absurd c3 c1
          · exact c4
        obtain ⟨i1, i2⟩ : 0 ≤ wc (G 3 p.toNat).toInt ∧ wc (G 3 p.toNat).toInt ≤ ((2 ^ p.toNat : Nat) : Int) := (I p.toNat (by omega)).2
        have := p40 p.toNat (by omega)
        rw [c2, r4]
        refine ⟨?_, by omega, by omega⟩
        split <;> omega
    refine c_tally M q2 a0 (by omega) (fun xp qp => ?_)
    obtain ⟨m1, m2, m3⟩ := part _ xp a0 a1 qp
    show HJ 142 56 lv [.long xp, .long (Int64.ofNat (0 : Fin 2).val), .int xv, .ref (A 3)] h Q
    refine hI_maxl rfl rfl ⟨rfl, by decide +kernel, by show 2 + 15 ≤ m_lo 142; decide +kernel⟩ rfl ?_
    refine s_hw59 M e0 e1 qa e2 qb e3 qv qv (by omega) (by omega) (fun x3 q3 => ?_)
    rw [Int.toNat_natCast, (PA v hv').2] at q3
    refine c_tally M q3 b0 (by omega) (fun xq qq => ?_)
    obtain ⟨n1, n2, n3⟩ := part _ xq b0 b1 qq
    refine hI_maxl rfl rfl ⟨rfl, by decide +kernel, by show 4 + 15 ≤ m_lo 142; decide +kernel⟩ rfl ?_
    generalize (if xp < Int64.ofNat (0 : Fin 2).val then Int64.ofNat (0 : Fin 2).val else xp) = yp at m1 ⊢
    generalize (if xq < Int64.ofNat (0 : Fin 2).val then Int64.ofNat (0 : Fin 2).val else xq) = yq at n1 ⊢
    refine s_hw73 M e0 e1 qa e2 qb e3 qv qv (by omega) (by omega) hw (fun h1 G1 f1 x4 q4 lv4 M1 d0 d1 d2 d3 => ?_)
    rw [Int.toNat_natCast] at f1
    have eS : (yp + yq).toInt = yp.toInt + yq.toInt := j_add (by omega) (by omega) (by omega) (by omega)
    have eN : (G1 3 v).toInt = wf Y a (fun u => wc (G 3 u).toInt) v := by
      rw [f1, m_uE, m_uE, eS, m1, n1, wf, if_neg (by omega)]
    have eO : ∀ u, u ≠ v → G1 3 u = G 3 u := fun u hu => by rw [f1, m_uE, m_uN _ _ _ _ hu]
    refine ih (v + 1) lv4 h1 G1 x4 (by omega) (by omega) (by omega) M1 (rc_S (wf_ca o) hv' I (fun u hu => by show wc (G1 3 u).toInt = wc (G 3 u).toInt; rw [eO u (by omega)]) ?_ bW) (fun u hu => ?_) (by omega) d0 d1 d2 d3
    · show wc (G1 3 v).toInt = _
      rw [eN]
      have r := wc_R (wf Y a (fun u => wc (G 3 u).toInt) v)
      have := bW.1
      omega
    · by_cases e : u = v
      · rw [e, eN]
        have := bW.1
        omega
      · rw [eO u e]
        exact J u (by omega)
theorem s_mk0w {a b : Int} (M : MX 42 W ρ m A h0 h F V G) (e0 : m_lk lv 0 = some (.ref m)) {lx1 : Int32} (e1 : m_lk lv 1 = some (.int lx1)) (lq1 : lx1.toInt = a) {lx2 : Int32} (e2 : m_lk lv 2 = some (.int lx2)) (lq2 : lx2.toInt = b) {ln : Nat} (e3 : m_lk lv 3 = some (.ref ln)) (hr_ln : ρ ln = 33) 
    (g0 : HJ 134 0 (lv_args 0 [.ref m, .int lx1]) [] h (fun v h' => HJ 143 5 lv (v.toList ++ []) h' Q))
    : HJ 143 0 lv [] h Q := by
  refine hI_al (k := 0) rfl e0 rfl ?_ -- 0
  refine hI_il (k := 1) rfl e1 rfl ?_ -- 1
  refine hM_iv M (by decide) rfl rfl (by decide) (as := [.int lx1]) (r := []) rfl rfl (by decide +kernel) rfl (by decide +kernel) rfl rfl rfl rfl rfl ?_ -- 2
  exact g0 
theorem s_mk5w {a b : Int} (M : MX 42 W ρ m A h0 h F V G) (e0 : m_lk lv 0 = some (.ref m)) {lx1 : Int32} (e1 : m_lk lv 1 = some (.int lx1)) (lq1 : lx1.toInt = a) {lx2 : Int32} (e2 : m_lk lv 2 = some (.int lx2)) (lq2 : lx2.toInt = b) {ln : Nat} (e3 : m_lk lv 3 = some (.ref ln)) (hr_ln : ρ ln = 33) (a0 : 0 ≤ a) (a1 : a ≤ 40)
    (g0 : ∀ x2 : Int32, x2.toInt = a + 1 → ∀ lv3 : List (Nat × Value), m_lk lv3 0 = some (.ref m) → m_lk lv3 1 = some (.int lx1) → m_lk lv3 2 = some (.int lx2) → m_lk lv3 3 = some (.ref ln) → m_lk lv3 4 = some (.int x2) → HJ 143 10 lv3 [] h Q)
    : HJ 143 5 lv [] h Q := by
  refine hI_il (k := 1) rfl e1 rfl ?_ -- 5
  refine hM_ic (n := 1) rfl (by decide) rfl (fun x1 q1 => ?_) -- 6
  refine hM_add rfl lq1 q1 (by omega) (by omega) rfl (fun x2 q2 => ?_) -- 7
  refine hM_si2 (k := 4) rfl (by decide +kernel) rfl (fun lv3 e3_4 u3 => ?_) -- 8
  have e3_0 := u3 0 _ (by decide) (Or.inl rfl) e0
  have e3_1 := u3 1 _ (by decide) (Or.inl rfl) e1
  have e3_2 := u3 2 _ (by decide) (Or.inl rfl) e2
  have e3_3 := u3 3 _ (by decide) (Or.inl rfl) e3
  exact g0 x2 q2 lv3 e3_0 e3_1 e3_2 e3_3 e3_4
theorem s_mk10w {a b v : Int} (M : MX 42 W ρ m A h0 h F V G) (e0 : m_lk lv 0 = some (.ref m)) {lx1 : Int32} (e1 : m_lk lv 1 = some (.int lx1)) (lq1 : lx1.toInt = a) {lx2 : Int32} (e2 : m_lk lv 2 = some (.int lx2)) (lq2 : lx2.toInt = b) {ln : Nat} (e3 : m_lk lv 3 = some (.ref ln)) (hr_ln : ρ ln = 33) {lx4 : Int32} (e4 : m_lk lv 4 = some (.int lx4)) (lq4 : lx4.toInt = v) 
    (g0 : v > b → HJ 136 0 (lv_args 0 [.ref m, .int lx2]) [] h (fun v h' => HJ 143 100 lv (v.toList ++ []) h' Q))
    (g1 : v ≤ b → v ≥ 41 → HJ 136 0 (lv_args 0 [.ref m, .int lx2]) [] h (fun v h' => HJ 143 100 lv (v.toList ++ []) h' Q))
    (g2 : v ≤ b → v < 41 → HJ 143 26 lv [.ref ln, .int lx4] h Q)
    : HJ 143 10 lv [] h Q := by
  refine hI_il2 (k := 4) rfl e4 rfl ?_ -- 10
  refine hI_il (k := 2) rfl e2 rfl ?_ -- 12
  refine hM_cgt (off := 82) (t := 95) rfl lq4 lq2 (by decide) rfl (fun c13 => ?_) (fun c13 => ?_) -- 13
  · refine hI_al (k := 0) rfl e0 rfl ?_ -- 95
    refine hI_il (k := 2) rfl e2 rfl ?_ -- 96
    refine hM_iv M (by decide) rfl rfl (by decide) (as := [.int lx2]) (r := []) rfl rfl (by decide +kernel) rfl (by decide +kernel) rfl rfl rfl rfl rfl ?_ -- 97
    exact g0 c13
  · refine hI_il2 (k := 4) rfl e4 rfl ?_ -- 16
    refine hM_bp (n := 41) rfl (by decide) rfl (fun x1 q1 => ?_) -- 18
    refine hM_cge (off := 75) (t := 95) rfl lq4 q1 (by decide) rfl (fun c20 => ?_) (fun c20 => ?_) -- 20
    · refine hI_al (k := 0) rfl e0 rfl ?_ -- 95
      refine hI_il (k := 2) rfl e2 rfl ?_ -- 96
      refine hM_iv M (by decide) rfl rfl (by decide) (as := [.int lx2]) (r := []) rfl rfl (by decide +kernel) rfl (by decide +kernel) rfl rfl rfl rfl rfl ?_ -- 97
      exact g1 c13 c20
    · refine hI_il2 (k := 4) rfl e4 rfl ?_ -- 23
      refine hI_al (k := 3) rfl e3 rfl ?_ -- 25
      exact g2 c13 c20
theorem s_mk27w {a b v n : Int} (M : MX 42 W ρ m A h0 h F V G) (e0 : m_lk lv 0 = some (.ref m)) {lx1 : Int32} (e1 : m_lk lv 1 = some (.int lx1)) (lq1 : lx1.toInt = a) {lx2 : Int32} (e2 : m_lk lv 2 = some (.int lx2)) (lq2 : lx2.toInt = b) {ln : Nat} (e3 : m_lk lv 3 = some (.ref ln)) (hr_ln : ρ ln = 33) {lx4 : Int32} (e4 : m_lk lv 4 = some (.int lx4)) (lq4 : lx4.toInt = v) {sx0 : Int32} (sq0 : sx0.toInt = v) {sx1 : Int32} (sq1 : sx1.toInt = n) (v0 : 0 ≤ v) (v1 : v ≤ 40)
    (g0 : v > n → HJ 136 0 (lv_args 0 [.ref m, .int lx2]) [] h (fun v h' => HJ 143 100 lv (v.toList ++ []) h' Q))
    (g1 : ∀ x1 : Int32, x1.toInt = V 0 (v).toNat → v ≤ n → HJ 136 0 (lv_args 0 [.ref m, .int x1]) [] h (fun v h' => HJ 143 41 lv (v.toList ++ []) h' Q))
    : HJ 143 27 lv [.int sx1, .int sx0] h Q := by
  refine hM_cgt (off := 68) (t := 95) rfl sq0 sq1 (by decide) rfl (fun c27 => ?_) (fun c27 => ?_) -- 27
  · refine hI_al (k := 0) rfl e0 rfl ?_ -- 95
    refine hI_il (k := 2) rfl e2 rfl ?_ -- 96
    refine hM_iv M (by decide) rfl rfl (by decide) (as := [.int lx2]) (r := []) rfl rfl (by decide +kernel) rfl (by decide +kernel) rfl rfl rfl rfl rfl ?_ -- 97
    exact g0 c27
  · refine hI_al (k := 0) rfl e0 rfl ?_ -- 30
    refine hI_al (k := 0) rfl e0 rfl ?_ -- 31
    refine hM_ga M (by decide) rfl rfl (k := 0) (c := 1) rfl rfl rfl (by decide +kernel) rfl ?_ -- 32
    refine hI_il2 (k := 4) rfl e4 rfl ?_ -- 35
    refine hM_ia M (by decide) (K := 0) (R2 := 43) (L := 41) (H := 41) (lo := (-2147483648)) (hi := 2147483647) rfl (by decide) rfl rfl (fun _ => rfl) rfl lq4 (by omega) (by omega) rfl (fun x1 q1 a1 b1 => ?_) -- 37
    refine hM_iv M (by decide) rfl rfl (by decide) (as := [.int x1]) (r := []) rfl rfl (by decide +kernel) rfl (by decide +kernel) rfl rfl rfl rfl rfl ?_ -- 38
    exact g1 x1 q1 c27
theorem s_mk41w {a b v : Int} (M : MX 42 W ρ m A h0 h F V G) (e0 : m_lk lv 0 = some (.ref m)) {lx1 : Int32} (e1 : m_lk lv 1 = some (.int lx1)) (lq1 : lx1.toInt = a) {lx2 : Int32} (e2 : m_lk lv 2 = some (.int lx2)) (lq2 : lx2.toInt = b) {ln : Nat} (e3 : m_lk lv 3 = some (.ref ln)) (hr_ln : ρ ln = 33) {lx4 : Int32} (e4 : m_lk lv 4 = some (.int lx4)) (lq4 : lx4.toInt = v) {sx0 : Int64} (v0 : 0 ≤ v) (v1 : v ≤ 40)
    (g0 : ∀ x1 : Int32, x1.toInt = V 1 (v).toNat → HJ 136 0 (lv_args 0 [.ref m, .int x1]) [] h (fun v h' => HJ 143 52 lv (v.toList ++ [.long sx0]) h' Q))
    : HJ 143 41 lv [.long sx0] h Q := by
  refine hI_al (k := 0) rfl e0 rfl ?_ -- 41
  refine hI_al (k := 0) rfl e0 rfl ?_ -- 42
  refine hM_ga M (by decide) rfl rfl (k := 1) (c := 1) rfl rfl rfl (by decide +kernel) rfl ?_ -- 43
  refine hI_il2 (k := 4) rfl e4 rfl ?_ -- 46
  refine hM_ia M (by decide) (K := 1) (R2 := 44) (L := 41) (H := 41) (lo := (-2147483648)) (hi := 2147483647) rfl (by decide) rfl rfl (fun _ => rfl) rfl lq4 (by omega) (by omega) rfl (fun x1 q1 a1 b1 => ?_) -- 48
  refine hM_iv M (by decide) rfl rfl (by decide) (as := [.int x1]) (r := [.long sx0]) rfl rfl (by decide +kernel) rfl (by decide +kernel) rfl rfl rfl rfl rfl ?_ -- 49
  exact g0 x1 q1
theorem s_mk55w {a b v : Int} (M : MX 42 W ρ m A h0 h F V G) (e0 : m_lk lv 0 = some (.ref m)) {lx1 : Int32} (e1 : m_lk lv 1 = some (.int lx1)) (lq1 : lx1.toInt = a) {lx2 : Int32} (e2 : m_lk lv 2 = some (.int lx2)) (lq2 : lx2.toInt = b) {ln : Nat} (e3 : m_lk lv 3 = some (.ref ln)) (hr_ln : ρ ln = 33) {lx4 : Int32} (e4 : m_lk lv 4 = some (.int lx4)) (lq4 : lx4.toInt = v) {sx0 : Int64} (v0 : 1 ≤ v) (v1 : v ≤ 40)(hw : d_sub [(46, 1001)] W = true)
    (g0 : ∀ x4 : Int32, x4.toInt = v - 1 → ∀ lv1 : List (Nat × Value), m_lk lv1 0 = some (.ref m) → m_lk lv1 1 = some (.int lx1) → m_lk lv1 2 = some (.int lx2) → m_lk lv1 3 = some (.ref ln) → m_lk lv1 4 = some (.int lx4) → m_lk lv1 5 = some (.long sx0) → (lg_cmp sx0 (-1)).toInt ≠ 0 → HJ 143 85 lv1 [.int x4, .ref ln, .long sx0, .int lx4, .ref (A 3)] h Q)
    (g1 : ∀ h5 : MH, ∀ G5 : Nat → Nat → Int64, G5 = m_u G 3 (m_u (G 3) (v).toNat (-1)) → ∀ x6 : Int32, x6.toInt = v + 1 → ∀ lv6 : List (Nat × Value), MX 42 W ρ m A h0 h5 F V G5 → m_lk lv6 0 = some (.ref m) → m_lk lv6 1 = some (.int lx1) → m_lk lv6 2 = some (.int lx2) → m_lk lv6 3 = some (.ref ln) → m_lk lv6 4 = some (.int x6) → m_lk lv6 5 = some (.long sx0) → (lg_cmp sx0 (-1)).toInt = 0 → HJ 143 10 lv6 [] h5 Q)
    : HJ 143 55 lv [.long sx0] h Q := by
  refine hM_sl2 (k := 5) rfl (by decide +kernel) rfl (fun lv1 e1_5 u1 => ?_) -- 55
  have e1_0 := u1 0 _ (by decide) (by decide) (Or.inl rfl) e0
  have e1_1 := u1 1 _ (by decide) (by decide) (Or.inl rfl) e1
  have e1_2 := u1 2 _ (by decide) (by decide) (Or.inl rfl) e2
  have e1_3 := u1 3 _ (by decide) (by decide) (Or.inl rfl) e3
  have e1_4 := u1 4 _ (by decide) (by decide) (Or.inl rfl) e4
  refine hI_al (k := 0) rfl e1_0 rfl ?_ -- 57
  refine hM_ga M (by decide) rfl rfl (k := 3) (c := 1) rfl rfl rfl (by decide +kernel) rfl ?_ -- 58
  refine hI_il2 (k := 4) rfl e1_4 rfl ?_ -- 61
  refine hI_ll2 (k := 5) rfl e1_5 rfl ?_ -- 63
  refine hM_jc (x := (-1)) rfl rfl rfl ?_ -- 65
  refine hM_lcmp rfl rfl (fun x2 q2 => ?_) -- 68
  refine hM_zne (off := 9) (t := 78) rfl q2 (by decide) rfl (fun c69 => ?_) (fun c69 => ?_) -- 69
  · refine hI_ll2 (k := 5) rfl e1_5 rfl ?_ -- 78
    refine hI_al (k := 3) rfl e1_3 rfl ?_ -- 80
    refine hI_il2 (k := 4) rfl e1_4 rfl ?_ -- 81
    refine hM_ic (n := 1) rfl (by decide) rfl (fun x3 q3 => ?_) -- 83
    refine hM_sub rfl lq4 q3 (by omega) (by omega) rfl (fun x4 q4 => ?_) -- 84
    exact g0 x4 q4 lv1 e1_0 e1_1 e1_2 e1_3 e1_4 e1_5 c69
  · refine hM_jc (x := (-1)) rfl rfl rfl ?_ -- 72
    refine hI_go (pc' := 88) (off := 13) rfl (by decide) ?_ -- 75
    refine hM_ls M (by decide) ok_42 (K := 3) (R2 := 46) (L := 41) (H := 41) rfl (by decide) rfl rfl rfl (d_subm hw (by decide +kernel)) rfl lq4 (by omega) (by omega) rfl (fun h5 G5 f5 M5 => ?_) -- 88
    refine hM_inc (k := 4) (z := 1) rfl e1_4 lq4 (by decide) (by omega) (by omega) (by decide +kernel) rfl (fun lv6 x6 q6 e6_4 u6 => ?_) -- 89
    have e6_0 := u6 0 _ (by decide) (Or.inl rfl) e1_0
    have e6_1 := u6 1 _ (by decide) (Or.inl rfl) e1_1
    have e6_2 := u6 2 _ (by decide) (Or.inl rfl) e1_2
    have e6_3 := u6 3 _ (by decide) (Or.inl rfl) e1_3
    have e6_5 := u6 5 _ (by decide) (Or.inr (by decide)) e1_5
    refine hI_go (pc' := 10) (off := (-82)) rfl (by decide) ?_ -- 92
    exact g1 h5 G5 f5 x6 q6 lv6 M5 e6_0 e6_1 e6_2 e6_3 e6_4 e6_5 c69
theorem s_mk86w {a b v l : Int} (M : MX 42 W ρ m A h0 h F V G) (e0 : m_lk lv 0 = some (.ref m)) {lx1 : Int32} (e1 : m_lk lv 1 = some (.int lx1)) (lq1 : lx1.toInt = a) {lx2 : Int32} (e2 : m_lk lv 2 = some (.int lx2)) (lq2 : lx2.toInt = b) {ln : Nat} (e3 : m_lk lv 3 = some (.ref ln)) (hr_ln : ρ ln = 33) {lx4 : Int32} (e4 : m_lk lv 4 = some (.int lx4)) (lq4 : lx4.toInt = v) {sx1 : Int32} (sq1 : sx1.toInt = v) {sx2 : Int64} {sx3 : Int32} (sq3 : sx3.toInt = l) (v0 : 0 ≤ v) (v1 : v ≤ 40)(hw : d_sub [(46, 1001)] W = true)
    (g0 : ∀ h1 : MH, ∀ G1 : Nat → Nat → Int64, G1 = m_u G 3 (m_u (G 3) (v).toNat (sx2 + (Int32.ofInt (l)).toInt64)) → ∀ x2 : Int32, x2.toInt = v + 1 → ∀ lv2 : List (Nat × Value), MX 42 W ρ m A h0 h1 F V G1 → m_lk lv2 0 = some (.ref m) → m_lk lv2 1 = some (.int lx1) → m_lk lv2 2 = some (.int lx2) → m_lk lv2 3 = some (.ref ln) → m_lk lv2 4 = some (.int x2) → HJ 143 10 lv2 [] h1 Q)
    : HJ 143 86 lv [.int sx3, .long sx2, .int sx1, .ref (A 3)] h Q := by
  refine hM_i2l rfl sq3 rfl ?_ -- 86
  refine hI_ladd rfl rfl ?_ -- 87
  refine hM_ls M (by decide) ok_42 (K := 3) (R2 := 46) (L := 41) (H := 41) rfl (by decide) rfl rfl rfl (d_subm hw (by decide +kernel)) rfl sq1 (by omega) (by omega) rfl (fun h1 G1 f1 M1 => ?_) -- 88
  refine hM_inc (k := 4) (z := 1) rfl e4 lq4 (by decide) (by omega) (by omega) (by decide +kernel) rfl (fun lv2 x2 q2 e2_4 u2 => ?_) -- 89
  have e2_0 := u2 0 _ (by decide) (Or.inl rfl) e0
  have e2_1 := u2 1 _ (by decide) (Or.inl rfl) e1
  have e2_2 := u2 2 _ (by decide) (Or.inl rfl) e2
  have e2_3 := u2 3 _ (by decide) (Or.inl rfl) e3
  refine hI_go (pc' := 10) (off := (-82)) rfl (by decide) ?_ -- 92
  exact g0 h1 G1 f1 x2 q2 lv2 M1 e2_0 e2_1 e2_2 e2_3 e2_4
theorem s_mk100w (M : MX 42 W ρ m A h0 h F V G) {sx0 : Int64} 
    (g0 : Q (some (.long sx0)) h)
    : HJ 143 100 lv [.long sx0] h Q := by
  refine hI_rl rfl rfl ?_
  exact g0 
theorem l_ml {Y : RYt} {k a b ln : Nat} {xa xb : Int32} (o : ry_ok Y k) (hw : d_sub [(46, 1001)] W = true) (v41 : ry_v Y ≤ 41) (bv : b < ry_v Y) (qa : xa.toInt = (a : Int)) (qb : xb.toInt = (b : Int)) (PA : ∀ u, u < ry_v Y → V 0 u = ry_a Y u ∧ V 1 u = ry_b Y u) (lB : ∀ j, j + 1 < ry_v Y → 0 ≤ ry_l Y j ∧ ry_l Y j ≤ 15120) (hln : ρ ln = 33) (LN : ∀ (h : MH) (G : Nat → Nat → Int64), MX 42 W ρ m A h0 h F V G → ((h_k h ln).1 = 20 ∧ 40 ≤ (h_k h ln).2 ∧ (h_k h ln).2 < 2147483648) ∧ ∀ j, j + 1 < ry_v Y → (h_i h ln j).toInt = ry_l Y j) (g : ∀ (h' : MH) (G' : Nat → Nat → Int64) (x : Int64), MX 42 W ρ m A h0 h' F V G' → (∃ D, rc_of (mf Y a) mB D (b + 1) ∧ x.toInt = D b) → Q (some (.long x)) h') : ∀ (d v : Nat) (lv : List (Nat × Value)) (h : MH) (G : Nat → Nat → Int64) (xv : Int32), b < v + d → v ≤ 42 → a < v → MX 42 W ρ m A h0 h F V G → rc_of (mf Y a) mB (fun u => (G 3 u).toInt) v → xv.toInt = (v : Int) → m_lk lv 0 = some (.ref m) → m_lk lv 1 = some (.int xa) → m_lk lv 2 = some (.int xb) → m_lk lv 3 = some (.ref ln) → m_lk lv 4 = some (.int xv) → HJ 143 10 lv [] h Q := by
  intro d
  have fin : ∀ (v : Nat) (lv : List (Nat × Value)) (h : MH) (G : Nat → Nat → Int64), b < v → MX 42 W ρ m A h0 h F V G → rc_of (mf Y a) mB (fun u => (G 3 u).toInt) v → HJ 136 0 (lv_args 0 [.ref m, .int xb]) [] h (fun v h' => HJ 143 100 lv (v.toList ++ []) h' Q) := fun v lv h G hb M I => by
    refine c_tally M qb (by omega) (by omega) (fun x qx => ?_)
    show HJ 143 100 lv [.long x] h Q
    have e : aw_g (fun u => (G 3 u).toInt) (b : Int) = (G 3 b).toInt := if_neg (by omega)
    rw [e] at qx
    exact s_mk100w M (g h G x M ⟨fun u => (G 3 u).toInt, fun u hu => I u (by omega), qx⟩)
  induction d with
  | zero =>
    intro v lv h G xv hd hv hav M I qv e0 e1 e2 e3 e4
    exact s_mk10w M e0 e1 qa e2 qb e3 hln e4 qv (fun _ => fin v lv h G (by omega) M I) (fun _ _ => fin v lv h G (by omega) M I) (fun c _ => absurd c (by omega))
  | succ d ih =>
    intro v lv h G xv hd hv hav M I qv e0 e1 e2 e3 e4
    refine s_mk10w M e0 e1 qa e2 qb e3 hln e4 qv (fun _ => fin v lv h G (by omega) M I) (fun _ c => absurd c (by omega)) (fun c _ => ?_)
    have hv' : v < ry_v Y := by omega
    obtain ⟨⟨a0, a1⟩, b0, b1⟩ := o.2.2 v hv'
    have bM := mf_B o hv' lB I
    obtain ⟨⟨l1, l2, l3⟩, l4⟩ := LN h G M
    refine hR_al (RX.start h) (by rw [l1]; decide) l3 rfl rfl (fun xn qn => ?_)
    refine s_mk27w M e0 e1 qa e2 qb e3 hln e4 qv qv qn (by omega) (by omega) (fun c => absurd c (by omega)) (fun x2 q2 _ => ?_)
    rw [Int.toNat_natCast, (PA v hv').1] at q2
    refine c_tally M q2 a0 (by omega) (fun xp qp => ?_)
    refine s_mk41w M e0 e1 qa e2 qb e3 hln e4 qv (by omega) (by omega) (fun x3 q3 => ?_)
    rw [Int.toNat_natCast, (PA v hv').2] at q3
    refine c_tally M q3 b0 (by omega) (fun xq qq => ?_)
    show HJ 143 52 lv [.long xq, .long xp] h Q
    refine hI_maxl rfl rfl ⟨rfl, by decide +kernel, by show 0 + 15 ≤ m_lo 143; decide +kernel⟩ rfl ?_
    have em : (if xq < xp then xp else xq).toInt = mm (aw_g (fun u => (G 3 u).toInt) (ry_a Y v)) (aw_g (fun u => (G 3 u).toInt) (ry_b Y v)) := by
      rw [j_max, qp, qq]
      have r := mm_R (aw_g (fun u => (G 3 u).toInt) (ry_a Y v)) (aw_g (fun u => (G 3 u).toInt) (ry_b Y v))
      split <;> omega
    generalize (if xq < xp then xp else xq) = xm at em ⊢
    have l5 := lB (v - 1) (by omega)
    have hf : mf Y a (fun u => (G 3 u).toInt) v = mj xm.toInt (ry_l Y (v - 1)) := by
      rw [mf, if_neg (by omega), em]
    have rj := mj_R xm.toInt (ry_l Y (v - 1))
    have bM1 := bM.1
    have bM2 := bM.2
    have nx : ∀ (h1 : MH) (G1 : Nat → Nat → Int64) (w : Int64) (x4 : Int32) (lv4 : List (Nat × Value)), G1 = m_u G 3 (m_u (G 3) v w) → w.toInt = mj xm.toInt (ry_l Y (v - 1)) → MX 42 W ρ m A h0 h1 F V G1 → x4.toInt = (v : Int) + 1 → m_lk lv4 0 = some (.ref m) → m_lk lv4 1 = some (.int xa) → m_lk lv4 2 = some (.int xb) → m_lk lv4 3 = some (.ref ln) → m_lk lv4 4 = some (.int x4) → HJ 143 10 lv4 [] h1 Q := fun h1 G1 w x4 lv4 f1 qw M1 q4 c0 c1 c2 c3 c4 => by
      refine ih (v + 1) lv4 h1 G1 x4 (by omega) (by omega) (by omega) M1 (rc_S (mf_ca o) hv' I (fun u hu => by show (G1 3 u).toInt = (G 3 u).toInt; rw [f1, m_uE, m_uN _ _ _ _ (by omega)]) ?_ bM) (by omega) c0 c1 c2 c3 c4
      show (G1 3 v).toInt = _
      rw [f1, m_uE, m_uE, qw, hf]
    refine s_mk55w M e0 e1 qa e2 qb e3 hln e4 qv (by omega) (by omega) hw (fun x4 q4 lv1 c0 c1 c2 c3 c4 _ c9 => ?_) (fun h5 G5 f5 x6 q6 lv6 M5 c0 c1 c2 c3 c4 _ c9 => ?_)
    · have n9 : ¬ xm.toInt = -1 := fun w => c9 (j_eqm.mpr w)
      refine hR_ia (RX.start h) l1 q4 (by omega) (by omega) rfl rfl (fun x5 q5 => ?_)
      have q5 : x5.toInt = ry_l Y (v - 1) := by
        rw [q5, show ((v : Int) - 1).toNat = v - 1 by omega]
        exact l4 (v - 1) (by omega)
      refine s_mk86w M c0 c1 qa c2 qb c3 hln c4 qv qv q5 (by omega) (by omega) hw (fun h1 G1 f1 x6 q6 lv6 M1 y0 y1 y2 y3 y4 => ?_)
      rw [Int.toNat_natCast] at f1
      refine nx h1 G1 _ x6 lv6 f1 ?_ M1 q6 y0 y1 y2 y3 y4
      rw [j_add (by omega) (by omega) (by rw [j_ofn (by omega) (by omega)]; omega) (by rw [j_ofn (by omega) (by omega)]; omega), j_ofn (by omega) (by omega)]
      omega
    · rw [Int.toNat_natCast] at f5
      have c9 := j_eqm.mp c9
      exact nx h5 G5 _ x6 lv6 f5 (by rw [j_m1]; omega) M5 q6 c0 c1 c2 c3 c4
theorem c_hwm {Y : RYt} {k a b : Nat} {xa xb : Int32} (M : MX 42 W ρ m A h0 h F V G) (o : ry_ok Y k) (k40 : k ≤ 40) (li : li_ok h m) (fr : fro_of (h_l h (h_r h m 2)) Y) (hw : d_sub [(46, 1001)] W = true) (v41 : ry_v Y ≤ 41) (bv : b < ry_v Y) (av : a < ry_v Y) (qa : xa.toInt = (a : Int)) (qb : xb.toInt = (b : Int)) (PA : ∀ u, u < ry_v Y → V 0 u = ry_a Y u ∧ V 1 u = ry_b Y u) (g : ∀ (h' : MH) (G' : Nat → Nat → Int64) (x : Int64), MX 42 W ρ m A h0 h' F V G' → (∃ D, rc_of (wf Y a) wB D (b + 1) ∧ ((D b = 0 ∧ x.toInt = -1) ∨ (D b ≠ 0 ∧ x.toInt = D b))) → Q (some (.long x)) h') : HJ 142 0 (lv_args 0 [.ref m, .int xa, .int xb]) [] h Q := by
  have key : ∀ W1, rc_of (wf Y a) wB W1 (b + 1) → (bs (h_l h (h_r h m 2) b) a = true ↔ 0 < W1 b) := fun W1 I => wf_fro o v41 (by omega) (by omega) I fr b (by omega)
  refine s_hw0 M rfl rfl qa rfl qb (k_isf li qb qa (by omega) (by omega) (by omega) (by omega) (fun z qz => ?_))
  rw [Int.toNat_natCast, Int.toNat_natCast] at qz
  show HJ 142 6 _ [.int z] h Q
  refine s_hw6 M rfl rfl qa rfl qb rfl (fun c => ?_) (fun c => ?_)
  · have nb : bs (h_l h (h_r h m 2) b) a = true := by
      cases e : bs (h_l h (h_r h m 2) b) a with
      | true => rfl
      | false =>
        rw [e] at qz
        exact absurd qz c
    refine c_lstart M hw qa (by omega) (fun h2 G2 M2 k1 k2 => ?_)
    show HJ 142 18 _ [] h2 Q
    refine s_hw18 M2 rfl rfl qa rfl qb (by omega) (by omega) hw (fun h3 G3 f3 x3 q3 lv3 M3 a0 a1 a2 a3 => ?_)
    rw [Int.toNat_natCast] at f3
    have eO : ∀ u, u ≠ a → G3 3 u = G2 3 u := fun u hu => by rw [f3, m_uE, m_uN _ _ _ _ hu]
    have eA : (G3 3 a).toInt = 1 := by
      rw [f3, m_uE, m_uE]
      decide
    refine l_hw o hw v41 bv qa qb PA (fun h4 G4 x M4 hx => ?_) (b + 1) (a + 1) lv3 h3 G3 x3 (by omega) (by omega) (by omega) M3 (wf_I o av (fun u hu => ?_) ?_) (fun u hu => ?_) (by omega) a0 a1 a2 a3
    · obtain ⟨D, d1, d2⟩ := hx
      have p := (key D d1).mp nb
      exact g h4 G4 x M4 ⟨D, d1, Or.inr ⟨by omega, d2 p⟩⟩
    · show wc (G3 3 u).toInt = 0
      rw [eO u (by omega), k1 u (by omega) (by omega)]
      decide
    · show wc (G3 3 a).toInt = 1
      rw [eA]
      decide
    · by_cases e : u = a
      · rw [e, eA]
        decide
      · rw [eO u e, k1 u (by omega) e]
        decide
  · have nb : ¬ bs (h_l h (h_r h m 2) b) a = true := fun e => by
      rw [e] at qz
      exact absurd (qz.symm.trans c) (by decide)
    obtain ⟨D, d1⟩ := wf_ex (a := a) o (b + 1) (by omega)
    have d0 := (d1 b (by omega)).2.1
    have p := key D d1
    refine g h G _ M ⟨D, d1, Or.inl ⟨?_, j_m1⟩⟩
    by_cases c0 : 0 < D b
    · exact absurd (p.mpr c0) nb
    · omega
theorem c_mlk {Y : RYt} {k a b ln : Nat} {xa xb : Int32} (M : MX 42 W ρ m A h0 h F V G) (o : ry_ok Y k) (hw : d_sub [(46, 1001)] W = true) (v41 : ry_v Y ≤ 41) (bv : b < ry_v Y) (av : a < ry_v Y) (qa : xa.toInt = (a : Int)) (qb : xb.toInt = (b : Int)) (PA : ∀ u, u < ry_v Y → V 0 u = ry_a Y u ∧ V 1 u = ry_b Y u) (lB : ∀ j, j + 1 < ry_v Y → 0 ≤ ry_l Y j ∧ ry_l Y j ≤ 15120) (hln : ρ ln = 33) (LN : ∀ (h : MH) (G : Nat → Nat → Int64), MX 42 W ρ m A h0 h F V G → ((h_k h ln).1 = 20 ∧ 40 ≤ (h_k h ln).2 ∧ (h_k h ln).2 < 2147483648) ∧ ∀ j, j + 1 < ry_v Y → (h_i h ln j).toInt = ry_l Y j) (g : ∀ (h' : MH) (G' : Nat → Nat → Int64) (x : Int64), MX 42 W ρ m A h0 h' F V G' → (∃ D, rc_of (mf Y a) mB D (b + 1) ∧ x.toInt = D b) → Q (some (.long x)) h') : HJ 143 0 (lv_args 0 [.ref m, .int xa, .int xb, .ref ln]) [] h Q := by
  refine s_mk0w M rfl rfl qa rfl qb rfl hln (c_lstart M hw qa (by omega) (fun h2 G2 M2 k1 k2 => ?_))
  show HJ 143 5 _ [] h2 Q
  refine s_mk5w M2 rfl rfl qa rfl qb rfl hln (by omega) (by omega) (fun x3 q3 lv3 a0 a1 a2 a3 a4 => ?_)
  exact l_ml o hw v41 bv qa qb PA lB hln LN g (b + 1) (a + 1) lv3 h2 G2 x3 (by omega) (by omega) (by omega) M2 (mf_I o av (fun u hu => k1 u (by omega) (by omega)) k2) (by omega) a0 a1 a2 a3 a4
end
section
variable {Q : Option Value → MH → Prop} {ρ : Nat → Nat} {h : MH}
def w_wt : List (Nat × Nat) := [(46, 1001)]
theorem c_cway {xr xa xb xw : Int32} (ht : TH c_sp ρ h) (n1 : t_nd ρ h) (n15 : c_PT 15 ρ h) (rk : ∀ r : Nat, (r : Int) < q_fd h (h_r h 16 0) 5 → (∃ k, k ≤ 40 ∧ ry_ok (ac_Y h (q_ac h (h_r h 16 0) r)) k) ∧ ∀ j, j + 1 < ry_v (ac_Y h (q_ac h (h_r h 16 0) r)) → 0 ≤ ry_l (ac_Y h (q_ac h (h_r h 16 0) r)) j ∧ ry_l (ac_Y h (q_ac h (h_r h 16 0) r)) j ≤ 15120) (g : ∀ (z : Int64) (h2 : MH), FQ ρ ρ w_wt h h2 → TH c_sp ρ h2 → wy_q (ac_Y h (q_ac h (h_r h 16 0) xr.toInt.toNat)) (0 ≤ xr.toInt ∧ xr.toInt < q_fd h (h_r h 16 0) 5) xa.toInt xb.toInt xw.toInt z → Q (some (.long z)) h2) : HJ 141 0 (lv_args 0 [.ref 16, .int xr, .int xa, .int xb, .int xw]) [] h Q := by
  have h16 := n15.1
  have M := RX.start h
  have no : ∀ lv, ¬ wy_in (ac_Y h (q_ac h (h_r h 16 0) xr.toInt.toNat)) (0 ≤ xr.toInt ∧ xr.toInt < q_fd h (h_r h 16 0) 5) xa.toInt xb.toInt → HJ 141 30 lv [] h Q := fun lv c => by
    refine hM_jc (x := -1) rfl rfl rfl ?_
    exact hI_rl rfl rfl (g _ h (FQ.refl _ _ _) ht (Or.inl ⟨c, rfl⟩))
  refine hI_al (k := 0) rfl rfl rfl ?_
  refine hI_il (k := 1) rfl rfl rfl ?_
  refine hM_iv (MX.start (W := []) ht h16) (by decide) rfl rfl (by decide) (as := [.int xr]) (r := []) rfl rfl (by decide +kernel) rfl (by decide +kernel) rfl rfl rfl rfl rfl ?_
  refine r_pastOf ht h16 (fun p hp => ?_)
  show HJ 141 5 _ [.ref p] h Q
  refine hI_as2 (k := 5) rfl (by decide +kernel) rfl ?_
  refine hI_al2 (k := 5) rfl rfl rfl ?_
  rcases hp with ⟨r0, r1, ep⟩ | ⟨hb, ep⟩
  · obtain ⟨r4, p0, bk, fp⟩ := pb_at ht n15 r0 r1
    have pl := (n15.2.1 xr.toInt.toNat r4 p0).1
    obtain ⟨⟨ko, ko40, o⟩, lB⟩ := rk xr.toInt.toNat (by omega)
    rw [← ep] at p0 bk fp pl
    obtain ⟨⟨bs1, bs2, bs3⟩, -, bm, bp, bf⟩ := bk
    have cp := t_spec ht (by decide) (rfl : c_sp[29]? = some _) fp
    have ok := pa_okT ht n1 fp pl
    have li := (pa_li ok).1
    have fli : ρ (h_r h p 1) = 42 := (past_ob ht fp).1.2.1
    have fln : ρ (pa_w h p 14) = 33 := past_row ht fp 14 (by decide)
    have cl := t_spec ht (by decide) (rfl : c_sp[33]? = some _) fln
    have okl := ok.2.2.2.2.2.2.1 14 (by decide)
    have es : z_i h p 11 + 1 = (ry_v (ac_Y h (q_ac h (h_r h 16 0) xr.toInt.toNat)) : Int) := bs1
    generalize ac_Y h (q_ac h (h_r h 16 0) xr.toInt.toNat) = Y at *
    refine hI_nl (off := 21) (t := 30) rfl (by decide) rfl (Or.inr (cp.2.2.1 rfl)) (fun z => absurd z p0) (fun _ => ?_)
    refine hI_al2 (k := 5) rfl rfl rfl ?_
    refine hI_il (k := 2) rfl rfl rfl ?_
    refine hM_iv (MX.start (W := []) ht fp) (by decide) rfl rfl (by decide) (as := [.int xa]) (r := []) rfl rfl (by decide +kernel) rfl (by decide +kernel) rfl rfl rfl rfl rfl ?_
    refine k_has M ok.1.1 rfl (fun z hz => ?_)
    show HJ 141 18 _ [.int z] h Q
    refine hM_zeq (off := 12) (t := 30) rfl (zx := z.toInt) rfl (by decide) rfl (fun c => no _ (fun w => ?_)) (fun c => ?_)
    · obtain ⟨-, w1, -⟩ := w
      rcases hz with hz | hz <;> omega
    obtain ⟨-, v0, v1⟩ := hz.resolve_right (fun w => c w.1)
    refine hI_al2 (k := 5) rfl rfl rfl ?_
    refine hI_il (k := 3) rfl rfl rfl ?_
    refine hM_iv (MX.start (W := []) ht fp) (by decide) rfl rfl (by decide) (as := [.int xb]) (r := []) rfl rfl (by decide +kernel) rfl (by decide +kernel) rfl rfl rfl rfl rfl ?_
    refine k_has M ok.1.1 rfl (fun z2 hz2 => ?_)
    show HJ 141 27 _ [.int z2] h Q
    refine hM_zne (off := 7) (t := 34) rfl (zx := z2.toInt) rfl (by decide) rfl (fun c2 => ?_) (fun c2 => no _ (fun w => ?_))
    rotate_left
    · obtain ⟨-, -, w1⟩ := w
      rcases hz2 with hz2 | hz2 <;> omega
    obtain ⟨-, f0, f1⟩ := hz2.resolve_right (fun w => c2 w.1)
    have inn : wy_in Y (0 ≤ xr.toInt ∧ xr.toInt < q_fd h (h_r h 16 0) 5) xa.toInt xb.toInt := ⟨⟨r0, r1⟩, ⟨v0, by omega⟩, f0, by omega⟩
    have ML := MX.start (W := w_wt) ht fli
    have wsub : d_sub [(46, 1001)] w_wt = true := by decide +kernel
    refine hI_il2 (k := 4) rfl rfl rfl ?_
    refine hM_zeq (off := 16) (t := 52) rfl (zx := xw.toInt) rfl (by decide) rfl (fun cw => ?_) (fun cw => ?_)
    · refine hI_al2 (k := 5) rfl rfl rfl ?_
      refine hI_gr (c := 3) (k := 1) rfl rfl rfl cp.1 rfl ?_
      refine hI_il (k := 2) rfl rfl rfl ?_
      refine hI_il (k := 3) rfl rfl rfl ?_
      refine hI_al2 (k := 5) rfl rfl rfl ?_
      refine hI_gr (c := 3) (k := 5) rfl rfl rfl cp.1 rfl ?_
      refine hM_iv ML (by decide) rfl rfl (by decide) (as := [.int xa, .int xb, .ref (h_r h p 5)]) (r := []) rfl rfl (by decide +kernel) rfl (by decide +kernel) rfl rfl rfl rfl rfl ?_
      refine c_mlk (Y := Y) (a := xa.toInt.toNat) (b := xb.toInt.toNat) (ln := h_r h p 5) ML o wsub bs3 (by omega) (by omega) (by omega) (by omega) (fun u hu => bp u hu) lB fln (fun h3 G3 M3 => ?_) (fun h2 G2 x M2 hx => ?_)
      · have f3 := M3.1.2.2.fq
        have l16 := (ht.2 (h_r h p 5) (by rw [show ρ (h_r h p 5) = 33 from fln]; decide)).1
        have ek : h_k h3 (h_r h p 5) = h_k h (h_r h p 5) := (f3.2.2.2 _ l16).1
        have ei : ∀ j, h_i h3 (h_r h p 5) j = h_i h (h_r h p 5) j := fun j => (fq_e j f3 (D := [(33, 1001), (33, 1002)]) (by decide +kernel) (List.mem_of_getElem? (i := 0) rfl) (List.mem_of_getElem? (i := 1) rfl) fln l16).1
        have k1 : (h_k h (h_r h p 5)).1 = 20 := okl.1
        have k2 : 40 ≤ (h_k h (h_r h p 5)).2 := okl.2.2.2.1
        have k3 : (h_k h (h_r h p 5)).2 ≤ 1000000 := okl.2.2.2.2
        rw [ek]
        exact ⟨⟨k1, k2, by omega⟩, fun j hj => by rw [ei j]; exact (bm j hj).2.1⟩
      · show HJ 141 67 _ [.long x] h2 Q
        obtain ⟨D, d1, d2⟩ := hx
        obtain ⟨W1, w1⟩ := wf_ex (a := xa.toInt.toNat) o (xb.toInt.toNat + 1) (by omega)
        have R := wm_R o (by omega) lB w1 d1 xb.toInt.toNat (by omega)
        refine hI_rl rfl rfl (g x h2 M2.1.2.2.fq M2.1.1 (Or.inr ⟨inn, W1, D, w1, d1, ?_⟩))
        unfold wy_a
        omega
    · refine hI_al2 (k := 5) rfl rfl rfl ?_
      refine hI_gr (c := 3) (k := 1) rfl rfl rfl cp.1 rfl ?_
      refine hI_il (k := 2) rfl rfl rfl ?_
      refine hI_il (k := 3) rfl rfl rfl ?_
      refine hM_iv ML (by decide) rfl rfl (by decide) (as := [.int xa, .int xb]) (r := []) rfl rfl (by decide +kernel) rfl (by decide +kernel) rfl rfl rfl rfl rfl ?_
      refine c_hwm (Y := Y) (a := xa.toInt.toNat) (b := xb.toInt.toNat) ML o ko40 li bf wsub bs3 (by omega) (by omega) (by omega) (by omega) (fun u hu => bp u hu) (fun h2 G2 x M2 hx => ?_)
      show HJ 141 49 _ [.long x] h2 Q
      obtain ⟨W1, w1, w2⟩ := hx
      obtain ⟨D, d1⟩ := mf_ex (a := xa.toInt.toNat) o lB (xb.toInt.toNat + 1) (by omega)
      refine hI_go (pc' := 67) (off := 18) rfl (by decide) ?_
      refine hI_rl rfl rfl (g x h2 M2.1.2.2.fq M2.1.1 (Or.inr ⟨inn, W1, D, w1, d1, ?_⟩))
      unfold wy_a
      omega
  · subst ep
    refine hI_nl (off := 21) (t := 30) rfl (by decide) rfl (Or.inl rfl) (fun _ => no _ (fun w => hb w.1)) (fun z => absurd rfl z)
theorem rl_15 (ht : TH c_sp ρ h) (n15 : c_PT 15 ρ h) : ∀ r : Nat, (r : Int) < q_fd h (h_r h 16 0) 5 → (∃ k, k ≤ 40 ∧ ry_ok (ac_Y h (q_ac h (h_r h 16 0) r)) k) ∧ ∀ j, j + 1 < ry_v (ac_Y h (q_ac h (h_r h 16 0) r)) → 0 ≤ ry_l (ac_Y h (q_ac h (h_r h 16 0) r)) j ∧ ry_l (ac_Y h (q_ac h (h_r h 16 0) r)) j ≤ 15120 := fun r hr => by
  have fN := nw_ob ht n15.1
  have b5 := (td_bdN ht fN).2.1
  have oc := ((td_obN ht fN).2.2 r (by omega)).1
  have c := (t_spec ht (by decide) (rfl : c_sp[12]? = some _) oc).2.2.2 2 (.inl (0, 40)) rfl (fun z => by cases z)
  have c0 : 0 ≤ q_fd h (q_ac h (h_r h 16 0) r) 2 ∧ q_fd h (q_ac h (h_r h 16 0) r) 2 ≤ 40 := c
  have av := n15.2.2.2.1 r hr
  have av' : ∀ k, k < ac_N h (q_ac h (h_r h 16 0) r) → av_2 (ac_T h (q_ac h (h_r h 16 0) r)) k := fun k hk => av k (by unfold ac_N at hk; omega)
  obtain ⟨k, k1, k2, -⟩ := ry_okR (ac_N h (q_ac h (h_r h 16 0) r)) av'
  have n40 : ac_N h (q_ac h (h_r h 16 0) r) ≤ 40 := by
    unfold ac_N
    omega
  exact ⟨⟨k, by omega, k2⟩, ry_lB _ n40 av'⟩
end
set_option maxRecDepth 100000 in
set_option maxHeartbeats 1000000 in
theorem case_30 : d_hand c_sp c_CC c_PT 0 c_m0 c_lcuts c_h30 := fun ρ K KA lv h σ α Q hC ht hw hT go => by
  obtain ⟨⟨e0, r0⟩, ⟨e1, r1⟩, ⟨e2, r2⟩, x, e3, qx, x0, x5, xl⟩ := lc_in hw
  have n1 := hT 1 (by decide)
  have n2 := hT 2 (by decide)
  have n7 := hT 7 (by decide)
  have n10 := hT 10 (by decide)
  have n12 := hT 12 (by decide)
  have n13 := hT 13 (by decide)
  have n14 := hT 14 (by decide)
  have n15 := hT 15 (by decide)
  have m16 : α 1 = 16 := n2.1.2.2.2.2.2.1 _ r1
  have h16 := n10.1
  have um := n10.2.1
  obtain ⟨rN, rI⟩ := n12.2.2 (α 2) r2
  have fN := nw_ob ht h16
  have fin : ∀ (ρ' : Nat → Nat) (h' : MH), FQ ρ ρ' c_m0.2.1 h h' → TH c_sp ρ' h' → c_PT 1 ρ' h' → c_PT 2 ρ' h' → c_PT 7 ρ' h' → c_PT 10 ρ' h' → c_PT 12 ρ' h' → c_PT 13 ρ' h' → c_PT 14 ρ' h' → c_PT 15 ρ' h' → HJ 0 2036 lv [] h' Q := fun ρ' h' f t a1 a2 a7 a10 a12 a13 a14 a15 => go c_hb hb_mem lv h' ρ' σ α f t (lc_out hw ht f) (by show 0 ≤ -3 * σ 3 + 0 + 2999; omega) (by show -3 * σ 3 + 0 + 2999 < -3 * σ 3 + 0 + 3000; omega) (t_7 a1 a2 a7 a10 a12 a13 a14 a15)
  show HJ 0 1732 lv [] h Q
  refine hI_al (k := 1) rfl e1 rfl ?_
  refine hL_arg (n := 1) rfl rfl rfl rfl rfl (by decide) (by decide) (by decide) e0 e3 ht r0 x0 (by first | exact xl | (rw [s2]; exact xl)) ?_
  refine hL_arg (n := 2) rfl rfl rfl rfl rfl (by decide) (by decide) (by decide) e0 e3 ht r0 x0 (by first | exact xl | (rw [s2]; exact xl)) ?_
  refine hL_arg (n := 3) rfl rfl rfl rfl rfl (by decide) (by decide) (by decide) e0 e3 ht r0 x0 (by first | exact xl | (rw [s2]; exact xl)) ?_
  refine hL_arg (n := 4) rfl rfl rfl rfl rfl (by decide) (by decide) (by decide) e0 e3 ht r0 x0 (by first | exact xl | (rw [s2]; exact xl)) ?_
  refine hL_bool rfl rfl rfl rfl ?_
  generalize hk1 : h_i h (α 0) (x.toInt + 1).toNat = xk1
  generalize hk2 : h_i h (α 0) (x.toInt + 2).toNat = xk2
  generalize hk3 : h_i h (α 0) (x.toInt + 3).toNat = xk3
  generalize hk4 : h_i h (α 0) (x.toInt + 4).toNat = xk4
  refine hM_iv (MX.start (W := []) ht r1) (by decide) rfl rfl (by decide) (as := [.int xk1, .int xk2, .int xk3, .int (bz xk4)]) (r := []) rfl rfl (by decide +kernel) rfl (by decide +kernel) rfl rfl rfl rfl rfl ?_
  rw [m16]
  refine c_cway ht n1 n15 (rl_15 ht n15) (fun z h2 f t2 qz => ?_)
  show HJ 0 1764 lv [.long z] h2 Q
  have f0 := f
  obtain ⟨ρ2, e9⟩ : ∃ ρ2, ρ2 = ρ := ⟨_, rfl⟩
  have f : FQ ρ ρ2 w_wt h h2 := by
    rw [e9]
    exact f0
  rw [← e9] at t2
  have keep : ∀ t, c_PT t ρ h → d_no (c_dep t) w_wt = true → c_PT t ρ2 h2 := fun t k d => c_PTx t _ _ _ h h2 ht f d k
  · skip
    obtain ⟨s1, s2, s3⟩ := sc_fr ht f r0 (by decide +kernel)
    have r2' : ρ2 (α 2) = 49 := (f.2.1 _ (by rw [r2]; decide)).trans r2
    have h16' : ρ2 16 = 6 := (f.2.1 16 (by rw [h16]; decide)).trans h16
    have um2 : t_um ρ2 := fun m m' e e' => um m m' (fq_m f ht (D := [(49, 1002)]) (by decide +kernel) (by decide) (List.mem_singleton.mpr rfl) e).1 (fq_m f ht (D := [(49, 1002)]) (by decide +kernel) (by decide) (List.mem_singleton.mpr rfl) e').1
    have fN2 : ρ2 (h_r h 16 0) = 7 := (f.2.1 _ (by rw [fN]; decide)).trans fN
    refine hI_al (k := 2) rfl e2 rfl ?_
    refine hL_arg (n := 1) rfl rfl rfl rfl rfl (by decide) (by decide) (by decide) e0 e3 t2 s1 x0 (by first | exact xl | (rw [s2]; exact xl)) ?_
    refine hL_arg (n := 2) rfl rfl rfl rfl rfl (by decide) (by decide) (by decide) e0 e3 t2 s1 x0 (by first | exact xl | (rw [s2]; exact xl)) ?_
    refine hL_arg (n := 3) rfl rfl rfl rfl rfl (by decide) (by decide) (by decide) e0 e3 t2 s1 x0 (by first | exact xl | (rw [s2]; exact xl)) ?_
    refine hL_arg (n := 4) rfl rfl rfl rfl rfl (by decide) (by decide) (by decide) e0 e3 t2 s1 x0 (by first | exact xl | (rw [s2]; exact xl)) ?_
    refine hL_bool rfl rfl rfl rfl ?_
    rw [s3, s3, s3, s3, hk1, hk2, hk3, hk4]
    refine hM_iv (MX.start (W := []) t2 r2') (by decide) rfl rfl (by decide) (as := [.int xk1, .int xk2, .int xk3, .int (bz xk4)]) (r := [.long z]) rfl rfl (by decide +kernel) rfl (by decide +kernel) rfl rfl rfl rfl rfl ?_
    have v2 := vm_fr ht f (by decide +kernel) r2
    have vq : ∀ K, (K = 5 ∨ K = 6) → ∀ j, (fun K j => (h_i h2 (h_r h2 (α 2) K) j).toInt) K j = q_vm h (α 2) K j := fun K hK j => congrFun (v2 K (by omega)) j
    have MM := MX.start (W := g_wy) t2 r2'
    obtain ⟨VV, hV⟩ : ∃ VV : Nat → Nat → Int, VV = fun K j => (h_i h2 (h_r h2 (α 2) K) j).toInt := ⟨_, rfl⟩
    rw [← hV] at MM vq
    have rw7 : p_rw (VV 6) := hv_7i MM (keep 7 n7 (by decide +kernel))
    have e5 : q_fd h (h_r h 16 0) 5 = VV 5 0 := rN.1.2.2.2.trans (vq 5 (Or.inl rfl) 0).symm
    have lk := ly_acG (r := xk1.toInt) ht n15 rN (vq 5 (Or.inl rfl) 0) (vq 6 (Or.inr rfl))
    refine c_mway (xw := bz xk4) (Y := ac_Y h (q_ac h (h_r h 16 0) xk1.toInt.toNat)) MM (by decide +kernel) rfl rfl rfl rw7 lk (fun r0 r1 => (rl_15 ht n15 xk1.toInt.toNat (by omega)).2) (fun y h3 F3 V3 G3 M3 qy => ?_)
    show HJ 0 1796 lv [.long y, .long z] h3 Q
    have qy : y = z := by
      by_cases rr : 0 ≤ xk1.toInt ∧ xk1.toInt < VV 5 0
      · obtain ⟨⟨n, -, o⟩, -⟩ := lk rr.1 rr.2
        exact wy_eq o (by rw [e5]) qz qy
      · rcases qz with ⟨-, q1⟩ | ⟨q1, -⟩
        · rcases qy with ⟨-, q2⟩ | ⟨q2, -⟩
          · rw [q1, q2]
          · exact absurd q2.1 rr
        · exact absurd (by rw [← e5]; exact q1.1) rr
    have f3 := M3.1.2.2.fq
    have t3 := M3.1.1
    have kp : ∀ t, c_PT t ρ h → d_no (c_dep t) w_wt = true → d_no (c_dep t) g_wy = true → c_PT t ρ2 h3 := fun t k d d2 => c_PTx t _ _ _ h2 h3 t2 f3 d2 (keep t k d)
    · skip
      refine hM_lcmp rfl rfl (fun w qw => ?_)
      refine hM_zeq (off := 239) (t := 2036) rfl (zx := 0) (by rw [qw, qy]; exact lg_0.mpr rfl) (by decide) rfl (fun _ => ?_) (fun c => absurd rfl c)
      exact fin ρ2 h3 ((f.mono (by decide +kernel)).trans (f3.mono (by decide +kernel))) t3 (kp 1 n1 (by decide +kernel) (by decide +kernel)) (kp 2 n2 (by decide +kernel) (by decide +kernel)) (kp 7 n7 (by decide +kernel) (by decide +kernel)) (kp 10 n10 (by decide +kernel) (by decide +kernel)) (kp 12 n12 (by decide +kernel) (by decide +kernel)) (kp 13 n13 (by decide +kernel) (by decide +kernel)) (kp 14 n14 (by decide +kernel) (by decide +kernel)) (kp 15 n15 (by decide +kernel) (by decide +kernel))
