-- THE LAW'S CASES THAT ARE GONE ON BY HAND: feed, end, text, image, again
-- the law's own row: its elements stay
theorem sc_fr {ρ ρ' : Nat → Nat} {W : List (Nat × Nat)} {h h' : MH} {s : Nat} (ht : TH c_sp ρ h) (f : FQ ρ ρ' W h h') (hs : ρ s = 5) (hn : d_no [(5, 1001), (5, 1002)] W = true) : ρ' s = 5 ∧ h_k h' s = h_k h s ∧ ∀ j, h_i h' s j = h_i h s j := by
  have l := (ht.2 s (by rw [hs]; decide)).1
  exact ⟨(f.2.1 s (by rw [hs]; decide)).trans hs, (f.2.2.2 s l).1, fun j => (fq_e j f hn (List.mem_of_getElem? (i := 0) rfl) (List.mem_of_getElem? (i := 1) rfl) hs l).1⟩
-- rows of acts, copied
theorem p_rwC {f t : Nat} {a b : Nat → Int} (c : cp_r 644 f t a b) (f3 : f ≤ 3) (h : p_rw a) : p_rw b := fun q hq => by
  by_cases e : 161 * q < 644 * t ∨ 644 * t + 644 ≤ 161 * q
  · rw [c.2 _ e]
    exact h q hq
  · have e1 : 161 * q = 644 * t + 161 * (q - 4 * t) := by omega
    rw [e1, c.1 _ (by omega), show 644 * f + 161 * (q - 4 * t) = 161 * (4 * f + (q - 4 * t)) by omega]
    exact h _ (by omega)
-- the relation, out of its parts
theorem rt_mk {ρ : Nat → Nat} {h : MH} {m : Nat} (h16 : ρ 16 = 6) (um : t_um ρ) (hm : ρ m = 49) (a : td_rel h (h_r h 16 0) m 0) (b : ∀ k, k < 3 → r_im h k ≠ 0 → td_rel h (r_im h k) m (k + 1)) : c_PT 12 ρ h := ⟨h16, um, fun m' e => by rw [um m' m e hm]; exact ⟨a, b⟩⟩
-- rows of acts as they were
theorem acs_fr {ρ ρ' : Nat → Nat} {W : List (Nat × Nat)} {h h' : MH} {N : Nat} (ht : TH c_sp ρ h) (f : FQ ρ ρ' W h h') (h1 : d_no td_EN W = true) (h2 : d_no ac_DN W = true) (fN : ρ N = 7) : tx_acs h h' N (fun _ => True) := fun r hr _ => ⟨((td_rfN ht f h1 fN).2 r hr).1, ac_frN ht f h2 ((td_obN ht fN).2.2 r hr).1⟩
theorem acs_T {h h1 h2 : MH} {N : Nat} {P : Nat → Prop} (e : tx_acs h h1 N P) (f : tx_acs h1 h2 N P) : tx_acs h h2 N P := fun r hr hp => by
  obtain ⟨a1, a2⟩ := e r hr hp
  obtain ⟨b1, b2⟩ := f r hr hp
  rw [a1] at b1 b2
  exact ⟨b1, ac_sameT a2 b2⟩
-- what is told now, with its rows of acts as they were
theorem td_new {h h' : MH} {N m : Nat} (acs : tx_acs h h' N (fun _ => True)) (u6 : ∀ j, j < 644 → q_vm h' m 6 j = q_vm h m 6 j) (r5 : q_fd h' N 5 = q_fd h N 5) (v5 : q_vm h' m 5 0 = q_vm h m 5 0) (b : td_bd h N) (t : td_rel h N m 0) (e2 : q_fd h' N 2 = q_vm h' m 2 0) (e3 : q_fd h' N 3 = q_vm h' m 3 0) (e4 : q_fd h' N 4 = q_vm h' m 4 0) (tp : ∀ j : Nat, (j : Int) < q_fd h' N 2 → q_tp h' N j = q_vm h' m 1 j) : td_rel h' N m 0 := by
  obtain ⟨⟨-, -, -, k5⟩, -, k7⟩ := t
  obtain ⟨-, b5, b40⟩ := b
  refine ⟨⟨e2, e3, e4, by rw [r5, v5]; exact k5⟩, fun j hj => ?_, fun r hr => ?_⟩
  · rw [show 600 * 0 + j = j by omega]
    exact tp j hj
  · rw [r5] at hr
    have r4 : r < 4 := by omega
    obtain ⟨a1, a2⟩ := acs r r4 trivial
    obtain ⟨y1, y2⟩ := k7 r hr
    have b4 := b40 r r4
    rw [a1]
    have e9 : q_fd h' (q_ac h N r) 2 = q_fd h (q_ac h N r) 2 := congrArg Int32.toInt a2.1
    refine ⟨by rw [e9, u6 _ (by omega)]; exact y1, fun k hk => ?_⟩
    rw [e9] at hk
    obtain ⟨w1, w2⟩ := y2 k hk
    exact ⟨by rw [(a2.2.2 k).1, u6 _ (by omega)]; exact w1, fun i hi => by rw [(a2.2.2 _).2, u6 _ (by omega)]; exact w2 i hi⟩
theorem vm_same_of {h h' : MH} {m s : Nat} (e : vm_same h h' m) : vm_eq h m s h' s := vm_sameE e
section
variable {Q : Option Value → MH → Prop} {ρ : Nat → Nat} {m : Nat} {lv : List (Nat × Value)} {h : MH}
-- the reference's copy, exactly
theorem c_ca {W : List (Nat × Nat)} {A : Nat → Nat} {V : Nat → Nat → Int} {G : Nat → Nat → Int64} {h0 : MH} (hw : d_sub w_cA W = true) : ca_ok W ρ m A h0 V G (fun a b _ V' => cp_all a.toNat b.toNat V V') := fun h F x1 x2 Q' M a0 a1 b0 b1 ne g => c_copyAll (f := x1.toInt.toNat) (t := x2.toInt.toNat) M hw (by omega) (by omega) (by omega) (by omega) (by omega) (fun h' V' M' c => g h' F V' G M' (c.2.2.2.2.2.2 67 (Or.inr (by decide))) c)
end
def c_hb : CT := (2036, (c_lS, ([1, 2, 7, 10, 12, 13, 14, 15], ([(3, (-3))], 2999))))
def c_h0 : CT := (196, (c_lS, ([1, 2, 7, 10, 12, 13, 14, 15], ([(3, (-3))], 3000))))
def c_h1 : CT := (259, (c_lS, ([1, 2, 7, 10, 12, 13, 14, 15], ([(3, (-3))], 3000))))
def c_h2 : CT := (282, (c_lS, ([1, 2, 7, 10, 12, 13, 14, 15], ([(3, (-3))], 3000))))
def c_h21 : CT := (1219, (c_lS, ([1, 2, 7, 10, 12, 13, 14, 15], ([(3, (-3))], 3000))))
def c_h22 : CT := (1310, (c_lS, ([1, 2, 7, 10, 12, 13, 14, 15], ([(3, (-3))], 3000))))
def c_h28 : CT := (1600, (c_lS, ([1, 2, 7, 10, 12, 13, 14, 15], ([(3, (-3))], 3000))))
def c_h33 : CT := (1903, (c_lS, ([1, 2, 7, 10, 12, 13, 14, 15], ([(3, (-3))], 3000))))
def c_h35 : CT := (1990, (c_lS, ([1, 2, 7, 10, 12, 13, 14, 15], ([(3, (-3))], 3000))))
def c_h36 : CT := (2013, (c_lS, ([1, 2, 7, 10, 12, 13, 14, 15], ([(3, (-3))], 3000))))
def hd_l (C : CT) : Bool := Nat.beq C.1 196 || Nat.beq C.1 259 || Nat.beq C.1 282 || Nat.beq C.1 1219 || Nat.beq C.1 1310 || Nat.beq C.1 1600 || Nat.beq C.1 1903 || Nat.beq C.1 1990 || Nat.beq C.1 2013
theorem hb_mem : c_hb ∈ c_lcuts := List.mem_of_getElem? (i := 38) rfl
def w_mg : List (Nat × Nat) := (49, 0) :: (96, 1001) :: w_cA
def w_m2 : List (Nat × Nat) := (49, 0) :: w_cA
theorem t_7 {ρ : Nat → Nat} {h : MH} (a1 : c_PT 1 ρ h) (a2 : c_PT 2 ρ h) (a7 : c_PT 7 ρ h) (a10 : c_PT 10 ρ h) (a12 : c_PT 12 ρ h) (a13 : c_PT 13 ρ h) (a14 : c_PT 14 ρ h) (a15 : c_PT 15 ρ h) : ∀ t ∈ [1, 2, 7, 10, 12, 13, 14, 15], c_PT t ρ h := fun t mt => by
  simp only [List.mem_cons, List.not_mem_nil, or_false] at mt
  rcases mt with rfl | rfl | rfl | rfl | rfl | rfl | rfl | rfl
  · exact a1
  · exact a2
  · exact a7
  · exact a10
  · exact a12
  · exact a13
  · exact a14
  · exact a15
set_option maxRecDepth 100000 in
set_option maxHeartbeats 1000000 in
theorem case_0 : d_hand c_sp c_CC c_PT 0 c_m0 c_lcuts c_h0 := fun ρ K KA lv h σ α Q hC ht hw hT go => by
  obtain ⟨⟨e0, r0⟩, ⟨e1, r1⟩, ⟨e2, r2⟩, x, e3, qx, x0, x5, xl⟩ := lc_in hw
  have n1 := hT 1 (by decide)
  have n2 := hT 2 (by decide)
  have n7 := hT 7 (by decide)
  have n10 := hT 10 (by decide)
  have n12 := hT 12 (by decide)
  have n13 := hT 13 (by decide)
  have n14 := hT 14 (by decide)
  have n15 := hT 15 (by decide)
  have m16 : α 1 = 16 := n2.1.2.2.2.2.2.1 _ r1
  have h16 := n10.1
  have um := n10.2.1
  obtain ⟨rN, rI⟩ := n12.2.2 (α 2) r2
  have fN := nw_ob ht h16
  have fin : ∀ (ρ' : Nat → Nat) (h' : MH), FQ ρ ρ' c_m0.2.1 h h' → TH c_sp ρ' h' → c_PT 1 ρ' h' → c_PT 2 ρ' h' → c_PT 7 ρ' h' → c_PT 10 ρ' h' → c_PT 12 ρ' h' → c_PT 13 ρ' h' → c_PT 14 ρ' h' → c_PT 15 ρ' h' → HJ 0 2036 lv [] h' Q := fun ρ' h' f t a1 a2 a7 a10 a12 a13 a14 a15 => go c_hb hb_mem lv h' ρ' σ α f t (lc_out hw ht f) (by show 0 ≤ -3 * σ 3 + 0 + 2999; omega) (by show -3 * σ 3 + 0 + 2999 < -3 * σ 3 + 0 + 3000; omega) (t_7 a1 a2 a7 a10 a12 a13 a14 a15)
  show HJ 0 196 lv [] h Q
  refine hI_al (k := 1) rfl e1 rfl ?_
  refine hL_arg (n := 1) rfl rfl rfl rfl rfl (by decide) (by decide) (by decide) e0 e3 ht r0 x0 (by first | exact xl | (rw [s2]; exact xl)) ?_
  refine hL_arg (n := 2) rfl rfl rfl rfl rfl (by decide) (by decide) (by decide) e0 e3 ht r0 x0 (by first | exact xl | (rw [s2]; exact xl)) ?_
  refine hL_arg (n := 3) rfl rfl rfl rfl rfl (by decide) (by decide) (by decide) e0 e3 ht r0 x0 (by first | exact xl | (rw [s2]; exact xl)) ?_
  refine hL_arg (n := 4) rfl rfl rfl rfl rfl (by decide) (by decide) (by decide) e0 e3 ht r0 x0 (by first | exact xl | (rw [s2]; exact xl)) ?_
  refine hL_arg (n := 5) rfl rfl rfl rfl rfl (by decide) (by decide) (by decide) e0 e3 ht r0 x0 (by first | exact xl | (rw [s2]; exact xl)) ?_
  generalize hk1 : h_i h (α 0) (x.toInt + 1).toNat = xk1
  generalize hk2 : h_i h (α 0) (x.toInt + 2).toNat = xk2
  generalize hk3 : h_i h (α 0) (x.toInt + 3).toNat = xk3
  generalize hk4 : h_i h (α 0) (x.toInt + 4).toNat = xk4
  generalize hk5 : h_i h (α 0) (x.toInt + 5).toNat = xk5
  refine hM_iv (MX.start (W := []) ht r1) (by decide) rfl rfl (by decide) (as := [.int xk1, .int xk2, .int xk3, .int xk4, .int xk5]) (r := []) rfl rfl (by decide +kernel) rfl (by decide +kernel) rfl rfl rfl rfl rfl ?_
  rw [m16]
  have bN := td_r4N ht fN
  obtain ⟨u, hu⟩ : ∃ u : Nat, q_fd h (h_r h 16 0) 2 = (u : Int) := ⟨(q_fd h (h_r h 16 0) 2).toNat, by omega⟩
  refine c_feed (u := u) (MX.start (W := w_fd) ht fN) (by decide +kernel) h16 rfl (by decide +kernel) hu (fun z h2 F2 V2 M2 φ => ?_)
  show HJ 0 225 lv [.int z] h2 Q
  · skip
    obtain ⟨ρ2, e9⟩ : ∃ ρ2, ρ2 = ρ := ⟨_, rfl⟩
    have t2 := M2.1.1
    have f : FQ ρ ρ2 w_fd h h2 := by rw [e9]; exact M2.1.2.2.fq
    rw [← e9] at t2
    obtain ⟨s1, s2, s3⟩ := sc_fr ht f r0 (by decide +kernel)
    have r2' : ρ2 (α 2) = 49 := (f.2.1 _ (by rw [r2]; decide)).trans r2
    have h16' : ρ2 16 = 6 := (f.2.1 16 (by rw [h16]; decide)).trans h16
    have um2 : t_um ρ2 := fun m m' e e' => um m m' (fq_m f ht (D := [(49, 1002)]) (by decide +kernel) (by decide) (List.mem_singleton.mpr rfl) e).1 (fq_m f ht (D := [(49, 1002)]) (by decide +kernel) (by decide) (List.mem_singleton.mpr rfl) e').1
    have fN2 : ρ2 (h_r h 16 0) = 7 := (f.2.1 _ (by rw [fN]; decide)).trans fN
    refine hI_pop rfl rfl rfl ?_
    refine hI_al (k := 2) rfl e2 rfl ?_
    refine hL_arg (n := 1) rfl rfl rfl rfl rfl (by decide) (by decide) (by decide) e0 e3 t2 s1 x0 (by first | exact xl | (rw [s2]; exact xl)) ?_
    refine hL_arg (n := 2) rfl rfl rfl rfl rfl (by decide) (by decide) (by decide) e0 e3 t2 s1 x0 (by first | exact xl | (rw [s2]; exact xl)) ?_
    refine hL_arg (n := 3) rfl rfl rfl rfl rfl (by decide) (by decide) (by decide) e0 e3 t2 s1 x0 (by first | exact xl | (rw [s2]; exact xl)) ?_
    refine hL_arg (n := 4) rfl rfl rfl rfl rfl (by decide) (by decide) (by decide) e0 e3 t2 s1 x0 (by first | exact xl | (rw [s2]; exact xl)) ?_
    refine hL_arg (n := 5) rfl rfl rfl rfl rfl (by decide) (by decide) (by decide) e0 e3 t2 s1 x0 (by first | exact xl | (rw [s2]; exact xl)) ?_
    rw [s3, s3, s3, s3, s3, hk1, hk2, hk3, hk4, hk5]
    refine hM_iv (MX.start (W := []) t2 r2') (by decide) rfl rfl (by decide) (as := [.int xk1, .int xk2, .int xk3, .int xk4, .int xk5]) (r := []) rfl rfl (by decide +kernel) rfl (by decide +kernel) rfl rfl rfl rfl rfl ?_
    have v2 := vm_fr ht f (by decide +kernel) r2
    have l16 := (ht.2 16 (by rw [h16]; decide)).1
    have eN2 : h_r h2 16 0 = h_r h 16 0 := (fq_f f (D := [(6, 0)]) (by decide +kernel) (List.mem_singleton.mpr rfl) (by decide) h16 l16).2
    have eI2 := im_eq ht f h16 (D := [(6, 1), (8, 1001), (8, 1002)]) (by decide +kernel) (by decide) (by decide) (by decide)
    have cF : ∀ K, q_fd h2 (h_r h 16 0) K = F2 K := fun K => M2.2.1 K
    have cT : ∀ j, q_tp h2 (h_r h 16 0) j = V2 0 j := fun j => by
      unfold q_tp
      rw [(M2.2.2 0 (by decide +kernel)).1]
      exact ((M2.2.2 0 (by decide +kernel)).2 j).1
    have MM := MX.start (W := w_mfd) t2 r2'
    obtain ⟨VV, hV⟩ : ∃ VV : Nat → Nat → Int, VV = fun K j => (h_i h2 (h_r h2 (α 2) K) j).toInt := ⟨_, rfl⟩
    rw [← hV] at MM
    have V0e : ∀ K, (K = 1 ∨ K = 2 ∨ K = 3 ∨ K = 4 ∨ K = 5 ∨ K = 6) → ∀ j, VV K j = q_vm h (α 2) K j := fun K hK j => by rw [hV]; exact congrFun (v2 K hK) j
    have u2 : VV 2 0 = (u : Int) := ((V0e 2 (by decide) 0).trans rN.1.1.symm).trans hu
    refine c_mfeed (u := u) MM (by decide +kernel) u2 (fun y h3 F3 V3 M3 ψ => ?_)
    show HJ 0 255 lv [.int y] h3 Q
    · have qy : y.toInt = z.toInt := by
        rcases φ with ⟨a1, a2, -⟩ | ⟨a1, a2, -⟩ <;> rcases ψ with ⟨b1, b2, -⟩ | ⟨b1, b2, -⟩ <;> omega
      refine hI_pop rfl rfl rfl ?_
      refine hI_go (pc' := 2036) rfl (by decide) ?_
      have f3 := M3.1.2.2.fq
      have t3 := M3.1.1
      have eN3 : h_r h3 16 0 = h_r h 16 0 := (M3.gP h16' (by decide) (by decide +kernel)).trans eN2
      have eI3 := im_eq t2 f3 h16' (D := [(6, 1), (8, 1001), (8, 1002)]) (by decide +kernel) (by decide) (by decide) (by decide)
      have sN := td_frN t2 f3 (by decide +kernel) fN2
      have vK : ∀ K, K < 6 → q_fd h3 (h_r h 16 0) K = q_fd h2 (h_r h 16 0) K := fun K hK => congrArg Int32.toInt (sN.1 K hK)
      have vm : ∀ K, (K = 1 ∨ K = 2 ∨ K = 3 ∨ K = 4 ∨ K = 5 ∨ K = 6) → ∀ j, q_vm h3 (α 2) K j = V3 K j := fun K hK j => by
        rcases hK with rfl | rfl | rfl | rfl | rfl | rfl <;> exact M3.qv (by decide +kernel) j
      have im : (∀ k, k < 3 → vm_eq h2 (α 2) (k + 1) h3 (k + 1)) → ∀ k : Nat, k < 3 → r_im h3 k ≠ 0 → td_rel h3 (r_im h3 k) (α 2) (k + 1) := fun w k hk h0 => by
        rw [eI3, eI2] at h0 ⊢
        have oI := im_ob ht h16 k hk h0
        exact td_move (td_bdI ht oI) (pc_same (td_sameT (td_frI ht f (by decide +kernel) oI) (td_frI t2 f3 (by decide +kernel) ((f.2.1 _ (by rw [oI]; decide)).trans oI)))) (vm_eqT (vm_sameE v2) (w k hk)) (rI k hk h0)
      have ac := acs_T (acs_fr ht f (by decide +kernel) (by decide +kernel) fN) (acs_fr t2 f3 (by decide +kernel) (by decide +kernel) fN2)
      refine fin ρ2 h3 ((f.mono (by decide +kernel)).trans (f3.mono (by decide +kernel))) t3 (c_PTx 1 _ _ _ h2 h3 t2 f3 (by decide +kernel) (c_PTx 1 _ _ _ h h2 ht f (by decide +kernel) n1)) (c_PTx 2 _ _ _ h2 h3 t2 f3 (by decide +kernel) (c_PTx 2 _ _ _ h h2 ht f (by decide +kernel) n2)) (c_PTx 7 _ _ _ h2 h3 t2 f3 (by decide +kernel) (c_PTx 7 _ _ _ h h2 ht f (by decide +kernel) n7)) (c_PTx 10 _ _ _ h2 h3 t2 f3 (by decide +kernel) (c_PTx 10 _ _ _ h h2 ht f (by decide +kernel) n10)) (rt_mk ((f3.2.1 16 (by rw [h16']; decide)).trans h16') um2 r2' ?_ ?_) (c_PTx 13 _ _ _ h2 h3 t2 f3 (by decide +kernel) (c_PTx 13 _ _ _ h h2 ht f (by decide +kernel) n13)) (c_PTx 14 _ _ _ h2 h3 t2 f3 (by decide +kernel) (c_PTx 14 _ _ _ h h2 ht f (by decide +kernel) n14)) (c_PTx 15 _ _ _ h2 h3 t2 f3 (by decide +kernel) (c_PTx 15 _ _ _ h h2 ht f (by decide +kernel) n15))
      · rw [eN3]
        rcases φ with ⟨-, a2, a3, a4⟩ | ⟨-, a2, a3, a4, a5⟩
        · rcases ψ with ⟨-, b2, b3⟩ | ⟨-, b2, -⟩
          · have e : ∀ K, (K = 1 ∨ K = 2 ∨ K = 3 ∨ K = 4 ∨ K = 5 ∨ K = 6) → ∀ j, q_vm h3 (α 2) K j = q_vm h (α 2) K j := fun K hK j => by rw [vm K hK, b3, V0e K hK]
            have g : ∀ K, K < 6 → q_fd h3 (h_r h 16 0) K = q_fd h (h_r h 16 0) K := fun K hK => by rw [vK K hK, cF, a3]; rfl
            refine td_new ac (fun j _ => e 6 (by decide) j) (g 5 (by decide)) (e 5 (by decide) 0) (td_bdN ht fN) rN (by rw [g 2 (by decide), e 2 (by decide)]; exact rN.1.1) (by rw [g 3 (by decide), e 3 (by decide)]; exact rN.1.2.1) (by rw [g 4 (by decide), e 4 (by decide)]; exact rN.1.2.2.1) (fun j hj => ?_)
            rw [g 2 (by decide)] at hj
            rw [sN.2.2.1 j, cT, a4, e 1 (by decide)]
            have := rN.2.1 j hj
            rw [show 600 * 0 + j = j by omega] at this
            exact this
          · omega
        · rcases ψ with ⟨-, b2, -⟩ | ⟨-, b2, b3, b4, b5, b6⟩
          · omega
          · have e : ∀ K, (K = 3 ∨ K = 4 ∨ K = 5 ∨ K = 6) → ∀ j, q_vm h3 (α 2) K j = q_vm h (α 2) K j := fun K hK j => by rw [vm K (by omega), b6 K (by omega) (by omega), V0e K (by omega)]
            have g : ∀ K, K < 6 → K ≠ 2 → q_fd h3 (h_r h 16 0) K = q_fd h (h_r h 16 0) K := fun K hK h9 => by rw [vK K hK, cF, a5 K h9]; rfl
            have g2 : q_fd h3 (h_r h 16 0) 2 = ((u + 20 : Nat) : Int) := by rw [vK 2 (by decide), cF]; exact a4
            refine td_new ac (fun j _ => e 6 (by decide) j) (g 5 (by decide) (by decide)) (e 5 (by decide) 0) (td_bdN ht fN) rN (by rw [g2, vm 2 (by decide), b4]) (by rw [g 3 (by decide) (by decide), e 3 (by decide)]; exact rN.1.2.1) (by rw [g 4 (by decide) (by decide), e 4 (by decide)]; exact rN.1.2.2.1) (fun j hj => ?_)
            rw [g2] at hj
            rw [sN.2.2.1 j, cT, a3, vm 1 (by decide), b3]
            refine f_20R (fun i hi => ?_) j (by omega)
            have := rN.2.1 i (by omega)
            rw [show 600 * 0 + i = i by omega] at this
            rw [V0e 1 (by decide)]
            exact this
      · refine im (fun k hk => ?_)
        rcases ψ with ⟨-, b2, b3⟩ | ⟨-, b2, b3, b4, b5, b6⟩
        · exact vm_mk MM M3 (fun K _ => by rw [b3]) (fun j _ => by rw [b3]) (fun j _ => by rw [b3])
        · refine vm_mk MM M3 (fun K hK => ?_) (fun j _ => by rw [b3, f_20o (by omega)]) (fun j _ => by rw [b6 6 (by decide) (by decide)])
          rcases hK with rfl | rfl | rfl | rfl
          · exact b5 _ (by omega)
          · rw [b6 3 (by decide) (by decide)]
          · rw [b6 4 (by decide) (by decide)]
          · rw [b6 5 (by decide) (by decide)]
set_option maxRecDepth 100000 in
set_option maxHeartbeats 1000000 in
theorem case_1 : d_hand c_sp c_CC c_PT 0 c_m0 c_lcuts c_h1 := fun ρ K KA lv h σ α Q hC ht hw hT go => by
  obtain ⟨⟨e0, r0⟩, ⟨e1, r1⟩, ⟨e2, r2⟩, x, e3, qx, x0, x5, xl⟩ := lc_in hw
  have n1 := hT 1 (by decide)
  have n2 := hT 2 (by decide)
  have n7 := hT 7 (by decide)
  have n10 := hT 10 (by decide)
  have n12 := hT 12 (by decide)
  have n13 := hT 13 (by decide)
  have n14 := hT 14 (by decide)
  have n15 := hT 15 (by decide)
  have m16 : α 1 = 16 := n2.1.2.2.2.2.2.1 _ r1
  have h16 := n10.1
  have um := n10.2.1
  obtain ⟨rN, rI⟩ := n12.2.2 (α 2) r2
  have fN := nw_ob ht h16
  have fin : ∀ (ρ' : Nat → Nat) (h' : MH), FQ ρ ρ' c_m0.2.1 h h' → TH c_sp ρ' h' → c_PT 1 ρ' h' → c_PT 2 ρ' h' → c_PT 7 ρ' h' → c_PT 10 ρ' h' → c_PT 12 ρ' h' → c_PT 13 ρ' h' → c_PT 14 ρ' h' → c_PT 15 ρ' h' → HJ 0 2036 lv [] h' Q := fun ρ' h' f t a1 a2 a7 a10 a12 a13 a14 a15 => go c_hb hb_mem lv h' ρ' σ α f t (lc_out hw ht f) (by show 0 ≤ -3 * σ 3 + 0 + 2999; omega) (by show -3 * σ 3 + 0 + 2999 < -3 * σ 3 + 0 + 3000; omega) (t_7 a1 a2 a7 a10 a12 a13 a14 a15)
  show HJ 0 259 lv [] h Q
  refine hI_al (k := 1) rfl e1 rfl ?_
  refine hL_arg (n := 1) rfl rfl rfl rfl rfl (by decide) (by decide) (by decide) e0 e3 ht r0 x0 (by first | exact xl | (rw [s2]; exact xl)) ?_
  generalize hk1 : h_i h (α 0) (x.toInt + 1).toNat = xk1
  refine hM_iv (MX.start (W := []) ht r1) (by decide) rfl rfl (by decide) (as := [.int xk1]) (r := []) rfl rfl (by decide +kernel) rfl (by decide +kernel) rfl rfl rfl rfl rfl ?_
  rw [m16]
  refine c_end9 (n := xk1.toInt) (MX.start (W := [(7, 2)]) ht fN) (by decide +kernel) h16 rfl (by decide +kernel) rfl (fun z h2 F2 M2 φ => ?_)
  show HJ 0 268 lv [.int z] h2 Q
  · skip
    obtain ⟨ρ2, e9⟩ : ∃ ρ2, ρ2 = ρ := ⟨_, rfl⟩
    have t2 := M2.1.1
    have f : FQ ρ ρ2 [(7, 2)] h h2 := by rw [e9]; exact M2.1.2.2.fq
    rw [← e9] at t2
    obtain ⟨s1, s2, s3⟩ := sc_fr ht f r0 (by decide +kernel)
    have r2' : ρ2 (α 2) = 49 := (f.2.1 _ (by rw [r2]; decide)).trans r2
    have h16' : ρ2 16 = 6 := (f.2.1 16 (by rw [h16]; decide)).trans h16
    have um2 : t_um ρ2 := fun m m' e e' => um m m' (fq_m f ht (D := [(49, 1002)]) (by decide +kernel) (by decide) (List.mem_singleton.mpr rfl) e).1 (fq_m f ht (D := [(49, 1002)]) (by decide +kernel) (by decide) (List.mem_singleton.mpr rfl) e').1
    have fN2 : ρ2 (h_r h 16 0) = 7 := (f.2.1 _ (by rw [fN]; decide)).trans fN
    refine hI_pop rfl rfl rfl ?_
    refine hI_al (k := 2) rfl e2 rfl ?_
    refine hL_arg (n := 1) rfl rfl rfl rfl rfl (by decide) (by decide) (by decide) e0 e3 t2 s1 x0 (by first | exact xl | (rw [s2]; exact xl)) ?_
    rw [s3, hk1]
    refine hM_iv (MX.start (W := []) t2 r2') (by decide) rfl rfl (by decide) (as := [.int xk1]) (r := []) rfl rfl (by decide +kernel) rfl (by decide +kernel) rfl rfl rfl rfl rfl ?_
    have v2 := vm_fr ht f (by decide +kernel) r2
    have l16 := (ht.2 16 (by rw [h16]; decide)).1
    have eN2 : h_r h2 16 0 = h_r h 16 0 := (fq_f f (D := [(6, 0)]) (by decide +kernel) (List.mem_singleton.mpr rfl) (by decide) h16 l16).2
    have eI2 := im_eq ht f h16 (D := [(6, 1), (8, 1001), (8, 1002)]) (by decide +kernel) (by decide) (by decide) (by decide)
    have cF : ∀ K, q_fd h2 (h_r h 16 0) K = F2 K := fun K => M2.2.1 K
    have cT : ∀ j, q_tp h2 (h_r h 16 0) j = q_tp h (h_r h 16 0) j := fun j => by
      unfold q_tp
      rw [(M2.2.2 0 (by decide +kernel)).1]
      exact ((M2.2.2 0 (by decide +kernel)).2 j).1
    have MM := MX.start (W := [(49, 0), (51, 1001)]) t2 r2'
    obtain ⟨VV, hV⟩ : ∃ VV : Nat → Nat → Int, VV = fun K j => (h_i h2 (h_r h2 (α 2) K) j).toInt := ⟨_, rfl⟩
    rw [← hV] at MM
    have V0e : ∀ K, (K = 1 ∨ K = 2 ∨ K = 3 ∨ K = 4 ∨ K = 5 ∨ K = 6) → ∀ j, VV K j = q_vm h (α 2) K j := fun K hK j => by rw [hV]; exact congrFun (v2 K hK) j
    have F02 : (h_i h (h_r h 16 0) 2).toInt = q_fd h (h_r h 16 0) 2 := rfl
    have u2 : VV 2 0 = q_fd h (h_r h 16 0) 2 := (V0e 2 (by decide) 0).trans rN.1.1.symm
    refine c_mend (n := xk1.toInt) MM (by decide +kernel) rfl (fun y h3 F3 V3 M3 ψ => ?_)
    show HJ 0 278 lv [.int y] h3 Q
    · have qy : y.toInt = z.toInt := by
        rcases φ with ⟨a1, a2, -⟩ | ⟨a1, a2, a3, -⟩ <;> rcases ψ with ⟨b1, b2, -⟩ | ⟨b1, b2, b3, -⟩ <;> omega
      refine hI_pop rfl rfl rfl ?_
      refine hI_go (pc' := 2036) rfl (by decide) ?_
      have f3 := M3.1.2.2.fq
      have t3 := M3.1.1
      have eN3 : h_r h3 16 0 = h_r h 16 0 := (M3.gP h16' (by decide) (by decide +kernel)).trans eN2
      have eI3 := im_eq t2 f3 h16' (D := [(6, 1), (8, 1001), (8, 1002)]) (by decide +kernel) (by decide) (by decide) (by decide)
      have sN := td_frN t2 f3 (by decide +kernel) fN2
      have vK : ∀ K, K < 6 → q_fd h3 (h_r h 16 0) K = q_fd h2 (h_r h 16 0) K := fun K hK => congrArg Int32.toInt (sN.1 K hK)
      have vm : ∀ K, (K = 1 ∨ K = 2 ∨ K = 3 ∨ K = 4 ∨ K = 5 ∨ K = 6) → ∀ j, q_vm h3 (α 2) K j = V3 K j := fun K hK j => by
        rcases hK with rfl | rfl | rfl | rfl | rfl | rfl <;> exact M3.qv (by decide +kernel) j
      have im : (∀ k, k < 3 → vm_eq h2 (α 2) (k + 1) h3 (k + 1)) → ∀ k : Nat, k < 3 → r_im h3 k ≠ 0 → td_rel h3 (r_im h3 k) (α 2) (k + 1) := fun w k hk h0 => by
        rw [eI3, eI2] at h0 ⊢
        have oI := im_ob ht h16 k hk h0
        exact td_move (td_bdI ht oI) (pc_same (td_sameT (td_frI ht f (by decide +kernel) oI) (td_frI t2 f3 (by decide +kernel) ((f.2.1 _ (by rw [oI]; decide)).trans oI)))) (vm_eqT (vm_sameE v2) (w k hk)) (rI k hk h0)
      have ac := acs_T (acs_fr ht f (by decide +kernel) (by decide +kernel) fN) (acs_fr t2 f3 (by decide +kernel) (by decide +kernel) fN2)
      refine fin ρ2 h3 ((f.mono (by decide +kernel)).trans (f3.mono (by decide +kernel))) t3 (c_PTx 1 _ _ _ h2 h3 t2 f3 (by decide +kernel) (c_PTx 1 _ _ _ h h2 ht f (by decide +kernel) n1)) (c_PTx 2 _ _ _ h2 h3 t2 f3 (by decide +kernel) (c_PTx 2 _ _ _ h h2 ht f (by decide +kernel) n2)) (c_PTx 7 _ _ _ h2 h3 t2 f3 (by decide +kernel) (c_PTx 7 _ _ _ h h2 ht f (by decide +kernel) n7)) (c_PTx 10 _ _ _ h2 h3 t2 f3 (by decide +kernel) (c_PTx 10 _ _ _ h h2 ht f (by decide +kernel) n10)) (rt_mk ((f3.2.1 16 (by rw [h16']; decide)).trans h16') um2 r2' ?_ ?_) (c_PTx 13 _ _ _ h2 h3 t2 f3 (by decide +kernel) (c_PTx 13 _ _ _ h h2 ht f (by decide +kernel) n13)) (c_PTx 14 _ _ _ h2 h3 t2 f3 (by decide +kernel) (c_PTx 14 _ _ _ h h2 ht f (by decide +kernel) n14)) (c_PTx 15 _ _ _ h2 h3 t2 f3 (by decide +kernel) (c_PTx 15 _ _ _ h h2 ht f (by decide +kernel) n15))
      · rw [eN3]
        rcases φ with ⟨-, a2, a3⟩ | ⟨-, a1, a2, a3, a5⟩
        · rcases ψ with ⟨-, b2, b3⟩ | ⟨-, b1, b2, -⟩
          · have e : ∀ K, (K = 1 ∨ K = 2 ∨ K = 3 ∨ K = 4 ∨ K = 5 ∨ K = 6) → ∀ j, q_vm h3 (α 2) K j = q_vm h (α 2) K j := fun K hK j => by rw [vm K hK, b3, V0e K hK]
            have g : ∀ K, K < 6 → q_fd h3 (h_r h 16 0) K = q_fd h (h_r h 16 0) K := fun K hK => by rw [vK K hK, cF, a3]; rfl
            refine td_new ac (fun j _ => e 6 (by decide) j) (g 5 (by decide)) (e 5 (by decide) 0) (td_bdN ht fN) rN (by rw [g 2 (by decide), e 2 (by decide)]; exact rN.1.1) (by rw [g 3 (by decide), e 3 (by decide)]; exact rN.1.2.1) (by rw [g 4 (by decide), e 4 (by decide)]; exact rN.1.2.2.1) (fun j hj => ?_)
            rw [g 2 (by decide)] at hj
            rw [sN.2.2.1 j, cT, e 1 (by decide)]
            have := rN.2.1 j hj
            rw [show 600 * 0 + j = j by omega] at this
            exact this
          · omega
        · rcases ψ with ⟨-, b2, -⟩ | ⟨-, b1, b2, b4, b5, b6⟩
          · omega
          · have e : ∀ K, (K = 1 ∨ K = 3 ∨ K = 4 ∨ K = 5 ∨ K = 6) → ∀ j, q_vm h3 (α 2) K j = q_vm h (α 2) K j := fun K hK j => by rw [vm K (by omega), b6 K (by omega), V0e K (by omega)]
            have g : ∀ K, K < 6 → K ≠ 2 → q_fd h3 (h_r h 16 0) K = q_fd h (h_r h 16 0) K := fun K hK h9 => by rw [vK K hK, cF, a5 K h9]; rfl
            have g2 : q_fd h3 (h_r h 16 0) 2 = xk1.toInt := by rw [vK 2 (by decide), cF]; exact a3
            refine td_new ac (fun j _ => e 6 (by decide) j) (g 5 (by decide) (by decide)) (e 5 (by decide) 0) (td_bdN ht fN) rN (by rw [g2, vm 2 (by decide), b4]) (by rw [g 3 (by decide) (by decide), e 3 (by decide)]; exact rN.1.2.1) (by rw [g 4 (by decide) (by decide), e 4 (by decide)]; exact rN.1.2.2.1) (fun j hj => ?_)
            rw [g2] at hj
            rw [sN.2.2.1 j, cT, e 1 (by decide)]
            have := rN.2.1 j (by omega)
            rw [show 600 * 0 + j = j by omega] at this
            exact this
      · refine im (fun k hk => ?_)
        rcases ψ with ⟨-, b2, b3⟩ | ⟨-, b1, b2, b4, b5, b6⟩
        · exact vm_mk MM M3 (fun K _ => by rw [b3]) (fun j _ => by rw [b3]) (fun j _ => by rw [b3])
        · refine vm_mk MM M3 (fun K hK => ?_) (fun j _ => by rw [b6 1 (by decide)]) (fun j _ => by rw [b6 6 (by decide)])
          rcases hK with rfl | rfl | rfl | rfl
          · exact b5 _ (by omega)
          · rw [b6 3 (by decide)]
          · rw [b6 4 (by decide)]
          · rw [b6 5 (by decide)]
set_option maxRecDepth 100000 in
set_option maxHeartbeats 1000000 in
theorem case_2 : d_hand c_sp c_CC c_PT 0 c_m0 c_lcuts c_h2 := fun ρ K KA lv h σ α Q hC ht hw hT go => by
  obtain ⟨⟨e0, r0⟩, ⟨e1, r1⟩, ⟨e2, r2⟩, x, e3, qx, x0, x5, xl⟩ := lc_in hw
  have n1 := hT 1 (by decide)
  have n2 := hT 2 (by decide)
  have n7 := hT 7 (by decide)
  have n10 := hT 10 (by decide)
  have n12 := hT 12 (by decide)
  have n13 := hT 13 (by decide)
  have n14 := hT 14 (by decide)
  have n15 := hT 15 (by decide)
  have m16 : α 1 = 16 := n2.1.2.2.2.2.2.1 _ r1
  have h16 := n10.1
  have um := n10.2.1
  obtain ⟨rN, rI⟩ := n12.2.2 (α 2) r2
  have fN := nw_ob ht h16
  have fin : ∀ (ρ' : Nat → Nat) (h' : MH), FQ ρ ρ' c_m0.2.1 h h' → TH c_sp ρ' h' → c_PT 1 ρ' h' → c_PT 2 ρ' h' → c_PT 7 ρ' h' → c_PT 10 ρ' h' → c_PT 12 ρ' h' → c_PT 13 ρ' h' → c_PT 14 ρ' h' → c_PT 15 ρ' h' → HJ 0 2036 lv [] h' Q := fun ρ' h' f t a1 a2 a7 a10 a12 a13 a14 a15 => go c_hb hb_mem lv h' ρ' σ α f t (lc_out hw ht f) (by show 0 ≤ -3 * σ 3 + 0 + 2999; omega) (by show -3 * σ 3 + 0 + 2999 < -3 * σ 3 + 0 + 3000; omega) (t_7 a1 a2 a7 a10 a12 a13 a14 a15)
  show HJ 0 282 lv [] h Q
  refine hI_al (k := 1) rfl e1 rfl ?_
  refine hL_arg (n := 1) rfl rfl rfl rfl rfl (by decide) (by decide) (by decide) e0 e3 ht r0 x0 (by first | exact xl | (rw [s2]; exact xl)) ?_
  generalize hk1 : h_i h (α 0) (x.toInt + 1).toNat = xk1
  refine hM_iv (MX.start (W := []) ht r1) (by decide) rfl rfl (by decide) (as := [.int xk1]) (r := []) rfl rfl (by decide +kernel) rfl (by decide +kernel) rfl rfl rfl rfl rfl ?_
  rw [m16]
  have bN := td_r4N ht fN
  refine c_ctext (a := xk1.toInt) hC ht h16 n1 n2 n13 n14 n15.2.1 rfl (fun ρ2 h2 z f t2 m1 m2 φ β => ?_)
  have m15 : c_PT 15 ρ2 h2 := tx_15 ht n15 f φ β
  show HJ 0 291 lv [.int z] h2 Q
  · skip
    obtain ⟨s1, s2, s3⟩ := sc_fr ht f r0 (by decide +kernel)
    have r2' : ρ2 (α 2) = 49 := (f.2.1 _ (by rw [r2]; decide)).trans r2
    have h16' : ρ2 16 = 6 := (f.2.1 16 (by rw [h16]; decide)).trans h16
    have um2 : t_um ρ2 := fun m m' e e' => um m m' (fq_m f ht (D := [(49, 1002)]) (by decide +kernel) (by decide) (List.mem_singleton.mpr rfl) e).1 (fq_m f ht (D := [(49, 1002)]) (by decide +kernel) (by decide) (List.mem_singleton.mpr rfl) e').1
    have fN2 : ρ2 (h_r h 16 0) = 7 := (f.2.1 _ (by rw [fN]; decide)).trans fN
    refine hI_pop rfl rfl rfl ?_
    refine hI_al (k := 2) rfl e2 rfl ?_
    refine hL_arg (n := 1) rfl rfl rfl rfl rfl (by decide) (by decide) (by decide) e0 e3 t2 s1 x0 (by first | exact xl | (rw [s2]; exact xl)) ?_
    rw [s3, hk1]
    refine hM_iv (MX.start (W := []) t2 r2') (by decide) rfl rfl (by decide) (as := [.int xk1]) (r := []) rfl rfl (by decide +kernel) rfl (by decide +kernel) rfl rfl rfl rfl rfl ?_
    have v2 := vm_fr ht f (by decide +kernel) r2
    have l16 := (ht.2 16 (by rw [h16]; decide)).1
    have eN2 : h_r h2 16 0 = h_r h 16 0 := (fq_f f (D := [(6, 0)]) (by decide +kernel) (List.mem_singleton.mpr rfl) (by decide) h16 l16).2
    have eI2 := im_eq ht f h16 (D := [(6, 1), (8, 1001), (8, 1002)]) (by decide +kernel) (by decide) (by decide) (by decide)
    have MM := MX.start (W := w_mtx) t2 r2'
    obtain ⟨VV, hV⟩ : ∃ VV : Nat → Nat → Int, VV = fun K j => (h_i h2 (h_r h2 (α 2) K) j).toInt := ⟨_, rfl⟩
    rw [← hV] at MM
    have V0e : ∀ K, (K = 1 ∨ K = 2 ∨ K = 3 ∨ K = 4 ∨ K = 5 ∨ K = 6) → ∀ j, VV K j = q_vm h (α 2) K j := fun K hK j => by rw [hV]; exact congrFun (v2 K hK) j
    have u2 : VV 2 0 = q_fd h (h_r h 16 0) 2 := (V0e 2 (by decide) 0).trans rN.1.1.symm
    have u5 : VV 5 0 = q_fd h (h_r h 16 0) 5 := (V0e 5 (by decide) 0).trans rN.1.2.2.2.symm
    have hZ : rd_tx (VV 1) (VV 2 0).toNat = rd_tx (q_tp h (h_r h 16 0)) (q_fd h (h_r h 16 0) 2).toNat := by
      rw [u2]
      refine rd_txX (fun j hj => ?_)
      have := rN.2.1 j (by omega)
      rw [show 600 * 0 + j = j by omega] at this
      rw [V0e 1 (by decide)]
      exact this.symm
    refine c_mtext (a := xk1.toInt) MM (by decide +kernel) rfl (fun y h3 F3 V3 M3 ψ => ?_)
    rw [hZ, u5] at ψ
    obtain ⟨Z, eZ⟩ : ∃ Z, Z = rd_tx (q_tp h (h_r h 16 0)) (q_fd h (h_r h 16 0) 2).toNat := ⟨_, rfl⟩
    have ok := ls_okT (T := q_tp h (h_r h 16 0)) (n := (q_fd h (h_r h 16 0) 2).toNat)
    rw [← eZ] at φ ψ ok
    show HJ 0 301 lv [.int y] h3 Q
    · have qy : y.toInt = z.toInt := by
        obtain ⟨-, φ⟩ := φ
        rcases φ with ⟨a1, a2, -⟩ | ⟨a2, ⟨a1, a3, -⟩ | ⟨a3, k, a1, a4, -⟩⟩
        · rcases ψ with ⟨b1, -⟩ | ⟨b2, -⟩
          · omega
          · unfold tx_not at a2
            omega
        · unfold tx_can at a2
          rcases ψ with ⟨b1, b2, -⟩ | ⟨b2, ⟨b1, -⟩ | ⟨b3, -⟩⟩
          · omega
          · omega
          · exact absurd b3 a3
        · unfold tx_can at a2
          rcases ψ with ⟨b1, b2, -⟩ | ⟨b2, ⟨b1, b3, -⟩ | ⟨b3, k2, b1, b4, -⟩⟩
          · omega
          · exact absurd a3 b3
          · rw [a1, b1, a4, b4]
      refine hI_pop rfl rfl rfl ?_
      refine hI_go (pc' := 2036) rfl (by decide) ?_
      have f3 := M3.1.2.2.fq
      have t3 := M3.1.1
      have eN3 : h_r h3 16 0 = h_r h 16 0 := (M3.gP h16' (by decide) (by decide +kernel)).trans eN2
      have eI3 := im_eq t2 f3 h16' (D := [(6, 1), (8, 1001), (8, 1002)]) (by decide +kernel) (by decide) (by decide) (by decide)
      have sN := td_frN t2 f3 (by decide +kernel) fN2
      have vK : ∀ K, K < 6 → q_fd h3 (h_r h 16 0) K = q_fd h2 (h_r h 16 0) K := fun K hK => congrArg Int32.toInt (sN.1 K hK)
      have vm : ∀ K, (K = 1 ∨ K = 2 ∨ K = 3 ∨ K = 4 ∨ K = 5 ∨ K = 6) → ∀ j, q_vm h3 (α 2) K j = V3 K j := fun K hK j => by
        rcases hK with rfl | rfl | rfl | rfl | rfl | rfl <;> exact M3.qv (by decide +kernel) j
      have im : (∀ k, k < 3 → vm_eq h2 (α 2) (k + 1) h3 (k + 1)) → ∀ k : Nat, k < 3 → r_im h3 k ≠ 0 → td_rel h3 (r_im h3 k) (α 2) (k + 1) := fun w k hk h0 => by
        rw [eI3, eI2] at h0 ⊢
        have oI := im_ob ht h16 k hk h0
        exact td_move (td_bdI ht oI) (pc_same (td_sameT (td_frI ht f (by decide +kernel) oI) (td_frI t2 f3 (by decide +kernel) ((f.2.1 _ (by rw [oI]; decide)).trans oI)))) (vm_eqT (vm_sameE v2) (w k hk)) (rI k hk h0)
      have ac3 := acs_fr t2 f3 (by decide +kernel) (by decide +kernel) fN2
      have o0 : ∀ {f : Nat → Int} {w : Int} {j : Nat}, j ≠ 0 → m_u f 0 w j = f j := fun {f w j} h => m_uN _ _ _ _ h
      -- the slots of images
      have hi : (∀ K, (K = 2 ∨ K = 3 ∨ K = 4 ∨ K = 5) → ∀ j, j ≠ 0 → V3 K j = VV K j) → V3 1 = VV 1 → (∀ j, 644 ≤ j → V3 6 j = VV 6 j) → ∀ k, k < 3 → vm_eq h2 (α 2) (k + 1) h3 (k + 1) := fun w1 w2 w3 k hk => vm_mk MM M3 (fun K hK => w1 K hK _ (by omega)) (fun j _ => by rw [w2]) (fun j _ => w3 _ (by omega))
      have go : td_rel h3 (h_r h 16 0) (α 2) 0 → (∀ k, k < 3 → vm_eq h2 (α 2) (k + 1) h3 (k + 1)) → p_rw (V3 6) → HJ 0 2036 lv [] h3 Q := fun g1 g2 g3 => by
        refine fin ρ2 h3 ((f.mono (by decide +kernel)).trans (f3.mono (by decide +kernel))) t3 (c_PTx 1 _ _ _ h2 h3 t2 f3 (by decide +kernel) m1) (c_PTx 2 _ _ _ h2 h3 t2 f3 (by decide +kernel) m2) (hv_7 M3 um2 g3) (c_PTx 10 _ _ _ h2 h3 t2 f3 (by decide +kernel) (c_PTx 10 _ _ _ h h2 ht f (by decide +kernel) n10)) (rt_mk ((f3.2.1 16 (by rw [h16']; decide)).trans h16') um2 r2' ?_ ?_) (c_PTx 13 _ _ _ h2 h3 t2 f3 (by decide +kernel) (c_PTx 13 _ _ _ h h2 ht f (by decide +kernel) n13)) (c_PTx 14 _ _ _ h2 h3 t2 f3 (by decide +kernel) (c_PTx 14 _ _ _ h h2 ht f (by decide +kernel) n14)) (c_PTx 15 _ _ _ h2 h3 t2 f3 (by decide +kernel) m15)
        · rw [eN3]
          exact g1
        · exact im g2
      have rw7 : p_rw (VV 6) := hv_7i MM (c_PTx 7 _ _ _ h h2 ht f (by decide +kernel) n7)
      obtain ⟨⟨-, a0⟩, φ⟩ := φ
      -- nothing but the tape, the fault and its place
      have few : ∀ (w3 w4 : Int), V3 2 = m_u (VV 2) 0 0 → V3 3 = m_u (VV 3) 0 w3 → V3 4 = m_u (VV 4) 0 w4 → (∀ K, K ≠ 2 → K ≠ 3 → K ≠ 4 → K ≠ 16 → V3 K = VV K) → q_fd h2 (h_r h 16 0) 3 = w3 → q_fd h2 (h_r h 16 0) 4 = w4 → q_fd h2 (h_r h 16 0) 5 = q_fd h (h_r h 16 0) 5 → tx_acs h h2 (h_r h 16 0) (fun _ => True) → HJ 0 2036 lv [] h3 Q := fun w3 w4 e2 e3 e4 eo c3 c4 c5 ca => by
        have e : ∀ K, (K = 1 ∨ K = 5 ∨ K = 6) → ∀ j, q_vm h3 (α 2) K j = q_vm h (α 2) K j := fun K hK j => by rw [vm K (by omega), eo K (by omega) (by omega) (by omega) (by omega), V0e K (by omega)]
        refine go (td_new (acs_T ca ac3) (fun j _ => e 6 (by decide) j) (by rw [vK 5 (by decide)]; exact c5) (e 5 (by decide) 0) (td_bdN ht fN) rN (by rw [vK 2 (by decide), a0, vm 2 (by decide), e2, m_uE]) (by rw [vK 3 (by decide), c3, vm 3 (by decide), e3, m_uE]) (by rw [vK 4 (by decide), c4, vm 4 (by decide), e4, m_uE]) (fun j hj => ?_)) (hi (fun K hK j hj => ?_) (eo 1 (by decide) (by decide) (by decide) (by decide)) (fun j _ => by rw [eo 6 (by decide) (by decide) (by decide) (by decide)])) ?_
        · rw [vK 2 (by decide), a0] at hj
          omega
        · rcases hK with rfl | rfl | rfl | rfl
          · rw [e2, o0 hj]
          · rw [e3, o0 hj]
          · rw [e4, o0 hj]
          · rw [eo 5 (by decide) (by decide) (by decide) (by decide)]
        · rw [eo 6 (by decide) (by decide) (by decide) (by decide)]
          exact rw7
      rcases φ with ⟨a1, a2, a3, a4, a5, a6⟩ | ⟨a2, ⟨a1, a3, a4, a5, a6, a7⟩ | ⟨z0, k, a1, a4, k3, c3, c4, c5, c6, c7⟩⟩
      · rcases ψ with ⟨b1, b2, ⟨b3, b4, b5⟩, b6⟩ | ⟨b2, -⟩
        · exact few 0 (-1) b3 b4 b5 (fun K k2 k3 k4 _ => b6 K k2 k3 k4) a3 a4 a5 a6
        · unfold tx_not at a2
          exfalso
          omega
      · unfold tx_can at a2
        rcases ψ with ⟨b1, b2, -⟩ | ⟨b2, ⟨b1, b3, ⟨b4, b5, b6⟩, b7⟩ | ⟨b3, -⟩⟩
        · exfalso
          omega
        · exact few _ _ b4 b5 b6 b7 a4 a5 a6 a7
        · exact absurd b3 a3
      · unfold tx_can at a2
        rcases ψ with ⟨b1, b2, -⟩ | ⟨b2, ⟨b1, b3, -⟩ | ⟨b3, k2, b1, b4, k23, ⟨d2, d3, d4, d5⟩, ⟨d6, d7, d8⟩, d9⟩⟩
        · exfalso
          omega
        · exact absurd z0 b3
        · have ek : k2 = k := by
            have := b4.trans a4.symm
            omega
          subst ek
          have g40 := (ok.1 z0).2
          have v6 : ∀ j, q_vm h3 (α 2) 6 j = V3 6 j := fun j => vm 6 (by decide) j
          have e5 : q_fd h3 (h_r h 16 0) 5 = (if xk1.toInt = -1 then q_fd h (h_r h 16 0) 5 + 1 else q_fd h (h_r h 16 0) 5) := by rw [vK 5 (by decide)]; exact c5
          refine go ⟨⟨by rw [vK 2 (by decide), a0, vm 2 (by decide), d2, m_uE], by rw [vK 3 (by decide), c3, vm 3 (by decide), d3, m_uE], by rw [vK 4 (by decide), c4, vm 4 (by decide), d4, m_uE], by rw [e5, vm 5 (by decide), d5, m_uE]⟩, fun j hj => ?_, fun r hr => ?_⟩ (hi (fun K hK j hj => ?_) (d9 1 (by decide) (by decide) (by decide) (by decide) (by decide) (by decide)) (fun j hj => d8 j (by omega))) (fun q hq => ?_)
          · rw [vK 2 (by decide), a0] at hj
            omega
          · rw [e5] at hr
            by_cases er : r = k2
            · subst er
              obtain ⟨x1, x2⟩ := sN.2.2.2 r (by omega)
              have aq : ar_q h3 (q_ac h3 (h_r h 16 0) r) Z := by
                rw [x1]
                exact ar_same x2 c6
              refine ⟨?_, fun j hj => ?_⟩
              · rw [v6, show 644 * 0 + 161 * r = 161 * r by omega, d6]
                exact aq.1
              · rw [aq.1] at hj
                obtain ⟨y1, y2⟩ := aq.2 j (by omega)
                refine ⟨?_, fun i hi => ?_⟩
                · have := d7 j (by omega) 0 (by decide)
                  rw [v6, show 644 * 0 + 161 * r + 1 + 4 * j = 161 * r + 1 + 4 * j + 0 by omega, this]
                  exact y1
                · have := d7 j (by omega) (1 + i) (by omega)
                  rw [v6, show 644 * 0 + 161 * r + 2 + 4 * j + i = 161 * r + 1 + 4 * j + (1 + i) by omega, this, show 4 * j + 1 + (1 + i) = 4 * j + 2 + i by omega]
                  exact y2 i hi
            · have ro : (r : Int) < q_fd h (h_r h 16 0) 5 := by
                by_cases z : xk1.toInt = -1
                · rw [if_pos z] at hr a4
                  omega
                · rw [if_neg z] at hr
                  exact hr
              have r4 : r < 4 := by omega
              obtain ⟨x1, x2⟩ := c7 r r4 er
              obtain ⟨x3, x4⟩ := sN.2.2.2 r r4
              rw [x1] at x3 x4
              rw [x3]
              have old := rN.2.2 r ro
              have b40 := (td_bdN ht fN).2.2 r r4
              have xx := ac_sameT x2 x4
              have e9 : q_fd h3 (q_ac h (h_r h 16 0) r) 2 = q_fd h (q_ac h (h_r h 16 0) r) 2 := congrArg Int32.toInt xx.1
              have same : ∀ j, j < 161 → q_vm h3 (α 2) 6 (644 * 0 + 161 * r + j) = q_vm h (α 2) 6 (644 * 0 + 161 * r + j) := fun j hj => by rw [v6, d8 _ (by omega), V0e 6 (by decide)]
              refine ⟨?_, fun j hj => ?_⟩
              · have := same 0 (by decide)
                rw [e9]
                exact old.1.trans this.symm
              · rw [e9] at hj
                obtain ⟨y1, y2⟩ := old.2 j hj
                refine ⟨?_, fun i hi => ?_⟩
                · have := same (1 + 4 * j) (by omega)
                  simp only [← Nat.add_assoc] at this
                  rw [(xx.2.2 j).1, this]
                  exact y1
                · have := same (2 + 4 * j + i) (by omega)
                  simp only [← Nat.add_assoc] at this
                  rw [(xx.2.2 _).2, this]
                  exact y2 i hi
          · rcases hK with rfl | rfl | rfl | rfl
            · rw [d2, o0 hj]
            · rw [d3, o0 hj]
            · rw [d4, o0 hj]
            · rw [d5, o0 hj]
          · by_cases eq : q = k2
            · subst eq
              show 0 ≤ V3 6 (161 * q) ∧ V3 6 (161 * q) ≤ 40
              rw [d6]
              omega
            · show 0 ≤ V3 6 (161 * q) ∧ V3 6 (161 * q) ≤ 40
              rw [d8 _ (by omega)]
              exact rw7 q hq
set_option maxRecDepth 100000 in
set_option maxHeartbeats 1000000 in
theorem case_36 : d_hand c_sp c_CC c_PT 0 c_m0 c_lcuts c_h36 := fun ρ K KA lv h σ α Q hC ht hw hT go => by
  obtain ⟨⟨e0, r0⟩, ⟨e1, r1⟩, ⟨e2, r2⟩, x, e3, qx, x0, x5, xl⟩ := lc_in hw
  have n1 := hT 1 (by decide)
  have n2 := hT 2 (by decide)
  have n7 := hT 7 (by decide)
  have n10 := hT 10 (by decide)
  have n12 := hT 12 (by decide)
  have n13 := hT 13 (by decide)
  have n14 := hT 14 (by decide)
  have n15 := hT 15 (by decide)
  have m16 : α 1 = 16 := n2.1.2.2.2.2.2.1 _ r1
  have h16 := n10.1
  have um := n10.2.1
  obtain ⟨rN, rI⟩ := n12.2.2 (α 2) r2
  have fN := nw_ob ht h16
  have fin : ∀ (ρ' : Nat → Nat) (h' : MH), FQ ρ ρ' c_m0.2.1 h h' → TH c_sp ρ' h' → c_PT 1 ρ' h' → c_PT 2 ρ' h' → c_PT 7 ρ' h' → c_PT 10 ρ' h' → c_PT 12 ρ' h' → c_PT 13 ρ' h' → c_PT 14 ρ' h' → c_PT 15 ρ' h' → HJ 0 2036 lv [] h' Q := fun ρ' h' f t a1 a2 a7 a10 a12 a13 a14 a15 => go c_hb hb_mem lv h' ρ' σ α f t (lc_out hw ht f) (by show 0 ≤ -3 * σ 3 + 0 + 2999; omega) (by show -3 * σ 3 + 0 + 2999 < -3 * σ 3 + 0 + 3000; omega) (t_7 a1 a2 a7 a10 a12 a13 a14 a15)
  show HJ 0 2013 lv [] h Q
  refine hI_al (k := 1) rfl e1 rfl ?_
  refine hL_arg (n := 1) rfl rfl rfl rfl rfl (by decide) (by decide) (by decide) e0 e3 ht r0 x0 (by first | exact xl | (rw [s2]; exact xl)) ?_
  generalize hk1 : h_i h (α 0) (x.toInt + 1).toNat = xk1
  refine hM_iv (MX.start (W := []) ht r1) (by decide) rfl rfl (by decide) (as := [.int xk1]) (r := []) rfl rfl (by decide +kernel) rfl (by decide +kernel) rfl rfl rfl rfl rfl ?_
  rw [m16]
  have snd : ∀ (ρ2 : Nat → Nat) (h2 : MH) (z : Int32), FQ ρ ρ2 w_ag7 h h2 → TH c_sp ρ2 h2 → c_PT 1 ρ2 h2 → c_PT 2 ρ2 h2 → c_PT 15 ρ2 h2 → (z.toInt = 0 ∧ ((xk1.toInt < 0 ∨ 3 ≤ xk1.toInt) ∨ (0 ≤ xk1.toInt ∧ xk1.toInt < 3 ∧ r_im h xk1.toInt.toNat = 0)) ∧ pc_eq h (h_r h 16 0) h2 (h_r h 16 0)) ∨ (z.toInt = 1 ∧ 0 ≤ xk1.toInt ∧ xk1.toInt < 3 ∧ r_im h xk1.toInt.toNat ≠ 0 ∧ pc_eq h (r_im h xk1.toInt.toNat) h2 (h_r h 16 0)) → HJ 0 2022 lv [.int z] h2 Q := fun ρ2 h2 z f t2 m1 m2 m15 hz => by
    obtain ⟨s1, s2, s3⟩ := sc_fr ht f r0 (by decide +kernel)
    have r2' : ρ2 (α 2) = 49 := (f.2.1 _ (by rw [r2]; decide)).trans r2
    have h16' : ρ2 16 = 6 := (f.2.1 16 (by rw [h16]; decide)).trans h16
    have um2 : t_um ρ2 := fun m m' e e' => um m m' (fq_m f ht (D := [(49, 1002)]) (by decide +kernel) (by decide) (List.mem_singleton.mpr rfl) e).1 (fq_m f ht (D := [(49, 1002)]) (by decide +kernel) (by decide) (List.mem_singleton.mpr rfl) e').1
    have fN2 : ρ2 (h_r h 16 0) = 7 := (f.2.1 _ (by rw [fN]; decide)).trans fN
    refine hI_pop rfl rfl rfl ?_
    refine hI_al (k := 2) rfl e2 rfl ?_
    refine hL_arg (n := 1) rfl rfl rfl rfl rfl (by decide) (by decide) (by decide) e0 e3 t2 s1 x0 (by first | exact xl | (rw [s2]; exact xl)) ?_
    rw [s3, hk1]
    refine hM_iv (MX.start (W := []) t2 r2') (by decide) rfl rfl (by decide) (as := [.int xk1]) (r := []) rfl rfl (by decide +kernel) rfl (by decide +kernel) rfl rfl rfl rfl rfl ?_
    have v2 := vm_fr ht f (by decide +kernel) r2
    have l16 := (ht.2 16 (by rw [h16]; decide)).1
    have eN2 : h_r h2 16 0 = h_r h 16 0 := (fq_f f (D := [(6, 0)]) (by decide +kernel) (List.mem_singleton.mpr rfl) (by decide) h16 l16).2
    have eI2 := im_eq ht f h16 (D := [(6, 1), (8, 1001), (8, 1002)]) (by decide +kernel) (by decide) (by decide) (by decide)
    have m10 : c_PT 10 ρ2 h2 := c_PTx 10 _ _ _ h h2 ht f (by decide +kernel) n10
    have m13 : c_PT 13 ρ2 h2 := c_PTx 13 _ _ _ h h2 ht f (by decide +kernel) n13
    have m14 : c_PT 14 ρ2 h2 := c_PTx 14 _ _ _ h h2 ht f (by decide +kernel) n14
    have M := MX.start (W := w_m2) t2 r2'
    obtain ⟨VV, hV⟩ : ∃ VV : Nat → Nat → Int, VV = fun K j => (h_i h2 (h_r h2 (α 2) K) j).toInt := ⟨_, rfl⟩
    rw [← hV] at M
    have k10 := hv_10i M m10
    have rw7 := hv_7i M (c_PTx 7 _ _ _ h h2 ht f (by decide +kernel) n7)
    have endd : ∀ (y : Int32) (h3 : MH) (F' : Nat → Int) (V' : Nat → Nat → Int) (G' : Nat → Nat → Int64) (a s : Nat), y.toInt = z.toInt → p_rw (V' 6) → MX 49 w_m2 ρ2 (α 2) (h_r h2 (α 2)) h2 h3 F' V' G' → td_bd h a → pc_eq h a h2 (h_r h 16 0) → td_rel h a (α 2) s → vm_eq h2 (α 2) s h3 0 → (∀ k, k < 3 → vm_eq h2 (α 2) (k + 1) h3 (k + 1)) → HJ 0 2032 lv [.int y] h3 Q := fun y h3 F' V' G' a s qy k7 M3 bd pc td vs vi => by
      refine hI_pop rfl rfl rfl ?_
      refine hI_go (pc' := 2036) rfl (by decide) ?_
      have f3 := M3.1.2.2.fq
      have t3 := M3.1.1
      have eN3 : h_r h3 16 0 = h_r h 16 0 := (M3.gP h16' (by decide) (by decide +kernel)).trans eN2
      have eI3 := im_eq t2 f3 h16' (D := [(6, 1), (8, 1001), (8, 1002)]) (by decide +kernel) (by decide) (by decide) (by decide)
      have sN := td_frN t2 f3 (by decide +kernel) fN2
      refine fin ρ2 h3 ((f.mono (by decide +kernel)).trans (f3.mono (by decide +kernel))) t3 (c_PTx 1 _ _ _ h2 h3 t2 f3 (by decide +kernel) m1) (c_PTx 2 _ _ _ h2 h3 t2 f3 (by decide +kernel) m2) (hv_7 M3 um2 k7) (c_PTx 10 _ _ _ h2 h3 t2 f3 (by decide +kernel) m10) (rt_mk h16' um2 r2' ?_ (fun k hk h0 => ?_)) (c_PTx 13 _ _ _ h2 h3 t2 f3 (by decide +kernel) m13) (c_PTx 14 _ _ _ h2 h3 t2 f3 (by decide +kernel) m14) (c_PTx 15 _ _ _ h2 h3 t2 f3 (by decide +kernel) m15)
      · rw [eN3]
        exact td_move bd (pc_eqT pc (pc_same sN)) (vm_eqT (vm_sameE v2) vs) td
      · rw [eI3, eI2] at h0 ⊢
        have oI := im_ob ht h16 k hk h0
        exact td_move (td_bdI ht oI) (pc_same (td_sameT (td_frI ht f (by decide +kernel) oI) (td_frI t2 f3 (by decide +kernel) ((f.2.1 _ (by rw [oI]; decide)).trans oI)))) (vm_eqT (vm_sameE v2) (vi k hk)) (rI k hk h0)
    refine c_magain M rfl rfl rfl (by decide +kernel) (c_ca (by decide +kernel)) (fun y h3 F' qy hb M3 => ?_) (fun y h3 F' V' G' qy c0 c2 hne v67 ψ M3 => ?_)
    · rcases hz with ⟨q, -, pc⟩ | ⟨q, c0, c3, hne, -⟩
      · exact endd y h3 F' _ _ (h_r h 16 0) 0 (by omega) rw7 M3 (td_bdN ht fN) pc rN (vm_mk M M3 (fun _ _ => rfl) (fun _ _ => rfl) (fun _ _ => rfl)) (fun k _ => vm_mk M M3 (fun _ _ => rfl) (fun _ _ => rfl) (fun _ _ => rfl))
      · rcases hb with hb | ⟨-, -, hb⟩
        · omega
        · exact absurd ((eI2 _).symm.trans ((k10 _ (by omega)).mpr hb)) hne
    · rcases hz with ⟨q, hb, -⟩ | ⟨q, -, c3, hn, pc⟩
      · rcases hb with hb | ⟨-, -, hb⟩
        · omega
        · exact absurd ((k10 _ (by omega)).mp ((eI2 _).trans hb)) hne
      · have ψ : cp_all (xk1.toInt + 1).toNat (0 : Int).toNat VV V' := ψ
        have e1 : (xk1.toInt + 1).toNat = xk1.toInt.toNat + 1 := by omega
        rw [e1, show (0 : Int).toNat = 0 from rfl] at ψ
        refine endd y h3 F' V' G' (r_im h xk1.toInt.toNat) (xk1.toInt.toNat + 1) (by omega) (p_rwC ψ.2.2.2.2.2.1 (by omega) rw7) M3 (td_bdI ht (im_ob ht h16 _ (by omega) hn)) pc (rI _ (by omega) hn) (vm_cpT M M3 ψ) (fun k hk => vm_cpO M M3 ψ (by omega))
  exact c_again7 hC ht h16 n1 n2 n15 n13.2.1 rfl rfl (fun z qz hb => snd ρ h z (FQ.refl _ _ _) ht n1 n2 n15 (Or.inl ⟨qz, hb, pc_same td_same0⟩)) (fun ρ2 h2 z qz c0 c3 hne f t2 m1 m2 m15 pc => snd ρ2 h2 z f t2 m1 m2 m15 (Or.inr ⟨qz, c0, c3, hne, pc⟩))
set_option maxRecDepth 100000 in
set_option maxHeartbeats 1000000 in
theorem case_35 : d_hand c_sp c_CC c_PT 0 c_m0 c_lcuts c_h35 := fun ρ K KA lv h σ α Q hC ht hw hT go => by
  obtain ⟨⟨e0, r0⟩, ⟨e1, r1⟩, ⟨e2, r2⟩, x, e3, qx, x0, x5, xl⟩ := lc_in hw
  have n1 := hT 1 (by decide)
  have n2 := hT 2 (by decide)
  have n7 := hT 7 (by decide)
  have n10 := hT 10 (by decide)
  have n12 := hT 12 (by decide)
  have n13 := hT 13 (by decide)
  have n14 := hT 14 (by decide)
  have n15 := hT 15 (by decide)
  have m16 : α 1 = 16 := n2.1.2.2.2.2.2.1 _ r1
  have h16 := n10.1
  have um := n10.2.1
  obtain ⟨rN, rI⟩ := n12.2.2 (α 2) r2
  have fN := nw_ob ht h16
  have fin : ∀ (ρ' : Nat → Nat) (h' : MH), FQ ρ ρ' c_m0.2.1 h h' → TH c_sp ρ' h' → c_PT 1 ρ' h' → c_PT 2 ρ' h' → c_PT 7 ρ' h' → c_PT 10 ρ' h' → c_PT 12 ρ' h' → c_PT 13 ρ' h' → c_PT 14 ρ' h' → c_PT 15 ρ' h' → HJ 0 2036 lv [] h' Q := fun ρ' h' f t a1 a2 a7 a10 a12 a13 a14 a15 => go c_hb hb_mem lv h' ρ' σ α f t (lc_out hw ht f) (by show 0 ≤ -3 * σ 3 + 0 + 2999; omega) (by show -3 * σ 3 + 0 + 2999 < -3 * σ 3 + 0 + 3000; omega) (t_7 a1 a2 a7 a10 a12 a13 a14 a15)
  show HJ 0 1990 lv [] h Q
  refine hI_al (k := 1) rfl e1 rfl ?_
  refine hL_arg (n := 1) rfl rfl rfl rfl rfl (by decide) (by decide) (by decide) e0 e3 ht r0 x0 (by first | exact xl | (rw [s2]; exact xl)) ?_
  generalize hk1 : h_i h (α 0) (x.toInt + 1).toNat = xk1
  refine hM_iv (MX.start (W := []) ht r1) (by decide) rfl rfl (by decide) (as := [.int xk1]) (r := []) rfl rfl (by decide +kernel) rfl (by decide +kernel) rfl rfl rfl rfl rfl ?_
  rw [m16]
  have snd : ∀ (ρ2 : Nat → Nat) (h2 : MH) (z : Int32), FQ ρ ρ2 w_im h h2 → TH c_sp ρ2 h2 → c_PT 1 ρ2 h2 → c_PT 2 ρ2 h2 → c_PT 13 ρ2 h2 → pc_eq h (h_r h 16 0) h2 (h_r h 16 0) → h_r h2 16 0 = h_r h 16 0 → (z.toInt = 0 ∧ (xk1.toInt < 0 ∨ 3 ≤ xk1.toInt) ∧ h2 = h) ∨ (z.toInt = 1 ∧ 0 ≤ xk1.toInt ∧ xk1.toInt < 3 ∧ r_im h2 xk1.toInt.toNat ≠ 0 ∧ pc_eq h (h_r h 16 0) h2 (r_im h2 xk1.toInt.toNat) ∧ (∀ j, j ≠ xk1.toInt.toNat → r_im h2 j = r_im h j) ∧ ∀ j, j < 3 → j ≠ xk1.toInt.toNat → r_im h j ≠ 0 → pc_eq h (r_im h j) h2 (r_im h j)) → HJ 0 1999 lv [.int z] h2 Q := fun ρ2 h2 z f t2 m1 m2 m13 pcN eN2 hz => by
    obtain ⟨s1, s2, s3⟩ := sc_fr ht f r0 (by decide +kernel)
    have r2' : ρ2 (α 2) = 49 := (f.2.1 _ (by rw [r2]; decide)).trans r2
    have h16' : ρ2 16 = 6 := (f.2.1 16 (by rw [h16]; decide)).trans h16
    have um2 : t_um ρ2 := fun m m' e e' => um m m' (fq_m f ht (D := [(49, 1002)]) (by decide +kernel) (by decide) (List.mem_singleton.mpr rfl) e).1 (fq_m f ht (D := [(49, 1002)]) (by decide +kernel) (by decide) (List.mem_singleton.mpr rfl) e').1
    have fN2 : ρ2 (h_r h 16 0) = 7 := (f.2.1 _ (by rw [fN]; decide)).trans fN
    refine hI_pop rfl rfl rfl ?_
    refine hI_al (k := 2) rfl e2 rfl ?_
    refine hL_arg (n := 1) rfl rfl rfl rfl rfl (by decide) (by decide) (by decide) e0 e3 t2 s1 x0 (by first | exact xl | (rw [s2]; exact xl)) ?_
    rw [s3, hk1]
    refine hM_iv (MX.start (W := []) t2 r2') (by decide) rfl rfl (by decide) (as := [.int xk1]) (r := []) rfl rfl (by decide +kernel) rfl (by decide +kernel) rfl rfl rfl rfl rfl ?_
    have v2 := vm_fr ht f (by decide +kernel) r2
    have l16 := (ht.2 16 (by rw [h16]; decide)).1
    have m14 : c_PT 14 ρ2 h2 := c_PTx 14 _ _ _ h h2 ht f (by decide +kernel) n14
    have m15 : c_PT 15 ρ2 h2 := by
      refine im_15 ht n15 f (by decide +kernel) eN2 pcN (fun k hk h0 => ?_)
      rcases hz with ⟨-, -, e⟩ | ⟨-, c0, c3, d1, d2, d3, d4⟩
      · subst e
        exact ⟨_, td_bdI ht (im_ob ht h16 k hk h0), n15.2.2.2.2 k hk h0, pc_same td_same0⟩
      · by_cases ek : k = xk1.toInt.toNat
        · rw [ek]
          exact ⟨h_r h 16 0, td_bdN ht fN, n15.2.2.2.1, d2⟩
        · rw [d3 k ek] at h0 ⊢
          exact ⟨r_im h k, td_bdI ht (im_ob ht h16 k hk h0), n15.2.2.2.2 k hk h0, d4 k hk ek h0⟩
    have M := MX.start (W := w_mg) t2 r2'
    have k0 : ∀ k, k < 3 → (r_im h k = 0 ↔ (h_i h2 (h_r h2 (α 2) 67) k).toInt = 0) := fun k hk3 => by
      have l2 := (ht.2 (α 2) (by rw [r2]; decide)).1
      have ek : h_i h2 (h_r h2 (α 2) 67) k = h_i h (h_r h (α 2) 67) k := fq_arr f ht (D := [(49, 67), (96, 1001), (96, 1002)]) (by decide +kernel) (by decide) rfl rfl rfl (List.mem_of_getElem? (i := 0) rfl) (by decide) (List.mem_of_getElem? (i := 1) rfl) (List.mem_of_getElem? (i := 2) rfl) (by decide) r2 l2 k
      rw [ek]
      exact n10.2.2 (α 2) r2 k hk3
    obtain ⟨VV, hV⟩ : ∃ VV : Nat → Nat → Int, VV = fun K j => (h_i h2 (h_r h2 (α 2) K) j).toInt := ⟨_, rfl⟩
    have k0 : ∀ k, k < 3 → (r_im h k = 0 ↔ VV 67 k = 0) := fun k hk => by
      rw [hV]
      exact k0 k hk
    rw [← hV] at M
    have rw7 := hv_7i M (c_PTx 7 _ _ _ h h2 ht f (by decide +kernel) n7)
    have endd : ∀ (y : Int32) (h3 : MH) (F' : Nat → Int) (V' : Nat → Nat → Int) (G' : Nat → Nat → Int64), y.toInt = z.toInt → p_rw (V' 6) → MX 49 w_mg ρ2 (α 2) (h_r h2 (α 2)) h2 h3 F' V' G' → (∀ k, k < 3 → (r_im h2 k = 0 ↔ V' 67 k = 0)) → vm_eq h2 (α 2) 0 h3 0 → (∀ k, k < 3 → r_im h2 k ≠ 0 → ∃ a s, td_bd h a ∧ pc_eq h a h2 (r_im h2 k) ∧ td_rel h a (α 2) s ∧ vm_eq h2 (α 2) s h3 (k + 1)) → HJ 0 2009 lv [.int y] h3 Q := fun y h3 F' V' G' qy k7 M3 k10 vN vi => by
      refine hI_pop rfl rfl rfl ?_
      refine hI_go (pc' := 2036) rfl (by decide) ?_
      have f3 := M3.1.2.2.fq
      have t3 := M3.1.1
      have eN3 : h_r h3 16 0 = h_r h 16 0 := (M3.gP h16' (by decide) (by decide +kernel)).trans eN2
      have eI3 := im_eq t2 f3 h16' (D := [(6, 1), (8, 1001), (8, 1002)]) (by decide +kernel) (by decide) (by decide) (by decide)
      have sN := td_frN t2 f3 (by decide +kernel) fN2
      refine fin ρ2 h3 ((f.mono (by decide +kernel)).trans (f3.mono (by decide +kernel))) t3 (c_PTx 1 _ _ _ h2 h3 t2 f3 (by decide +kernel) m1) (c_PTx 2 _ _ _ h2 h3 t2 f3 (by decide +kernel) m2) (hv_7 M3 um2 k7) (hv_10 M3 um2 h16' (fun k hk3 => by rw [eI3]; exact k10 k hk3)) (rt_mk h16' um2 r2' ?_ (fun k hk h0 => ?_)) (c_PTx 13 _ _ _ h2 h3 t2 f3 (by decide +kernel) m13) (c_PTx 14 _ _ _ h2 h3 t2 f3 (by decide +kernel) m14) (c_PTx 15 _ _ _ h2 h3 t2 f3 (by decide +kernel) m15)
      · rw [eN3]
        exact td_move (td_bdN ht fN) (pc_eqT pcN (pc_same sN)) (vm_eqT (vm_sameE v2) vN) rN
      · rw [eI3] at h0 ⊢
        have oI := im_ob t2 h16' k hk h0
        obtain ⟨a, s, bd, pc, td, vs⟩ := vi k hk h0
        exact td_move bd (pc_eqT pc (pc_same (td_frI t2 f3 (by decide +kernel) oI))) (vm_eqT (vm_sameE v2) vs) td
    refine c_mimage M rfl rfl rfl (by decide +kernel) (by decide +kernel) (c_ca (by decide +kernel)) (fun y h3 F' qy hb M3 => ?_) (fun y h1 h3 F' V1 G' qy c0 c2 v67 M1 ψ M3 => ?_)
    · rcases hz with ⟨q, -, e⟩ | ⟨-, c0, c3, -⟩
      · subst e
        exact endd y h3 F' _ _ (by omega) rw7 M3 k0 (vm_mk M M3 (fun _ _ => rfl) (fun _ _ => rfl) (fun _ _ => rfl)) (fun k hk h0 => ⟨_, k + 1, td_bdI ht (im_ob ht h16 k hk h0), pc_same td_same0, rI k hk h0, vm_mk M M3 (fun _ _ => rfl) (fun _ _ => rfl) (fun _ _ => rfl)⟩)
      · omega
    · rcases hz with ⟨-, hb, -⟩ | ⟨q, -, c3, d1, d2, d3, d4⟩
      · omega
      · have ψ : cp_all (0 : Int).toNat (xk1.toInt + 1).toNat VV V1 := ψ
        have es : (xk1.toInt + 1).toNat = xk1.toInt.toNat + 1 := by omega
        rw [es, show (0 : Int).toNat = 0 from rfl] at ψ
        have ψ3 : ∀ K, K < 7 → m_u V1 67 (m_u (V1 67) xk1.toInt.toNat 1) K = V1 K := fun K hK => m_uN _ _ _ _ (by omega)
        have w1 : ∀ s, vm_eq h2 (α 2) s h1 s → True := fun _ _ => trivial
        have mv : ∀ s s', vm_eq h2 (α 2) s h1 s' → vm_eq h2 (α 2) s h3 s' := fun s s' e => vm_eqT e (vm_mk M1 M3 (fun K hK => by rw [ψ3 K (by omega)]) (fun j _ => by rw [ψ3 1 (by decide)]) (fun j _ => by rw [ψ3 6 (by decide)]))
        refine endd y h3 F' _ G' (by omega) (by rw [ψ3 6 (by decide)]; exact p_rwC ψ.2.2.2.2.2.1 (by decide) rw7) M3 (fun k hk3 => ?_) (mv 0 0 (vm_cpO M M1 ψ (by omega))) (fun k hk h0 => ?_)
        · rw [m_uE]
          by_cases ek : k = xk1.toInt.toNat
          · rw [ek, m_uE]
            exact ⟨fun z => absurd z d1, fun z => by cases z⟩
          · rw [m_uN _ _ _ _ ek, d3 k ek, v67]
            exact k0 k hk3
        · by_cases ek : k = xk1.toInt.toNat
          · subst ek
            exact ⟨h_r h 16 0, 0, td_bdN ht fN, d2, rN, mv 0 _ (vm_cpT M M1 ψ)⟩
          · rw [d3 k ek] at h0 ⊢
            exact ⟨r_im h k, k + 1, td_bdI ht (im_ob ht h16 k hk h0), d4 k hk ek h0, rI k hk h0, mv _ _ (vm_cpO M M1 ψ (by omega))⟩
  have no : ∀ z : Int32, z.toInt = 0 → (xk1.toInt < 0 ∨ 3 ≤ xk1.toInt) → HJ 0 1999 lv [.int z] h Q := fun z qz hb => snd ρ h z (FQ.refl _ _ _) ht n1 n2 n13 (pc_same td_same0) rfl (Or.inl ⟨qz, hb, rfl⟩)
  by_cases hk3 : xk1.toInt.toNat < 3
  · refine c_image (fun ρ' h' a b h'' => ct_I h' a b 4 h'') ht h16 n1 n2 rfl rfl (fun ρ' h' a b Q' I ea eb f t ra rb g => ?_) (fun ρ2 h' h2 z b0 b2 qz f t2 m1 m2 I fs J => ?_) no
    · have ow : ow_ne h' a a := by
        by_cases e : h_r h (r_I h) xk1.toInt.toNat = 0
        · rw [ea]
          exact (I.2.2.2.2.2 e).2.2
        · obtain ⟨e1, -⟩ := I.2.2.1 e
          rw [ea, e1]
          exact (n13.2.2 _ _ hk3 hk3 e e).1
      refine HJ.both (r_toldI t ra rb ow (Q := fun v h'' => v = none ∧ ct_I h' a b 4 h'') (fun h'' J => ⟨rfl, J⟩)) (c_k1095 (Q := fun v h'' => ∃ ρ2, FQ ρ' ρ2 c_m1095.2.1 h' h'' ∧ TH c_sp ρ2 h'') (hC.x f) t rfl rfl ra rb (fi_rg t (by decide) rfl (k := 2) rfl rb) (fun ρ2 h2 f2 t2 _ _ => ⟨ρ2, f2, t2⟩)) (fun v h'' ⟨ev, J⟩ ⟨ρ2, f2, t2⟩ => ?_)
      subst ev
      obtain ⟨er, fs⟩ := FS.ofFQ (by decide +kernel) f2
      subst er
      exact g h'' (fs.mono (by decide +kernel)) t2 J
    · have I6 := I.2.2.2.2.1
      have l16 := (ht.2 16 (by rw [h16]; decide)).1
      have fI : ρ (r_I h) = 8 := (th_rf ht (R := 6) (by decide) rfl h16 (k := 1) rfl (fun z => by cases z)).2
      have Il := (ht.2 (r_I h) (by rw [fI]; decide)).1
      have ne16 : (16 : Nat) ≠ r_I h := ne_r h16 fI (by decide)
      have er : ∀ x i, h_r h2 x i = h_r h' x i := fun x i => (J.1.2.2 x i).2
      have eI : r_I h2 = r_I h := (er 16 1).trans (((I6 16 l16).2 1).2.2 (fun z => ne16 z.1))
      have eN : h_r h2 16 0 = h_r h 16 0 := (er 16 0).trans (((I6 16 l16).2 0).2.2 (fun z => ne16 z.1))
      have own : r_im h2 xk1.toInt.toNat = h_r h' (r_I h) xk1.toInt.toNat := by
        unfold r_im
        rw [eI, er]
      have oth : ∀ j, j ≠ xk1.toInt.toNat → r_im h2 j = r_im h j := fun j hj => by
        unfold r_im
        rw [eI, er]
        exact ((I6 _ Il).2 j).2.2 (fun z => hj z.2)
      have h162 : ρ2 16 = 6 := (f.2.1 16 (by rw [h16]; decide)).trans h16
      obtain ⟨⟨f1, t1⟩, rk, -⟩ := id I
      have fN2 : ρ2 (h_r h 16 0) = 7 := (f1.2.1 _ (by rw [fN]; decide)).trans fN
      have p1 : td_same h h' (h_r h 16 0) := td_frN ht f1 (by decide +kernel) fN
      have p2 : td_same h' h2 (h_r h 16 0) := td_frN t1 fs.fq (by decide +kernel) fN2
      exact snd ρ2 h2 z f t2 m1 m2 (img_ow ht h16 n13 hk3 I J eN h162 own oth) (pc_same (td_sameT p1 p2)) eN (Or.inr ⟨qz, b0, by omega, by rw [own]; exact th_na t1 rk (by decide), by rw [own]; exact pc_eqT (pc_same p1) (ct_pc J), oth, fun j hj hjk h0 => pc_same (img_pc ht h16 n13 hk3 I J hj hjk h0)⟩)
  · have hb : 3 ≤ xk1.toInt := by omega
    refine hI_il (k := 1) rfl rfl rfl ?_
    refine hM_zlt (off := 8) (t := 9) rfl rfl (by decide) rfl (fun c => absurd c (by omega)) (fun cA => ?_)
    refine hI_il (k := 1) rfl rfl rfl ?_
    refine hM_ic (n := 3) rfl (by decide) rfl (fun x3 q3 => ?_)
    refine hM_clt (off := 5) (t := 11) rfl rfl q3 (by decide) rfl (fun c => absurd c (by omega)) (fun c => ?_)
    exact hM_ic (n := 0) rfl (by decide) rfl (fun z q => hM_rb rfl rfl q (by omega) (by omega) (no z q (Or.inr hb)))
-- pasts in force, at the law
section
variable {Q : Option Value → MH → Prop} {ρ : Nat → Nat} {h : MH}
theorem r_pastOf {xr : Int32} (ht : TH c_sp ρ h) (h16 : ρ 16 = 6) (g : ∀ p, (0 ≤ xr.toInt ∧ xr.toInt < q_fd h (h_r h 16 0) 5 ∧ p = r_sl h xr.toInt.toNat) ∨ (¬ (0 ≤ xr.toInt ∧ xr.toInt < q_fd h (h_r h 16 0) 5) ∧ p = 0) → Q (some (.ref p)) h) : HJ 90 0 (lv_args 0 [.ref 16, .int xr]) [] h Q := by
  have fN := nw_ob ht h16
  have b5 := (td_bdN ht fN).2.1
  have fP : ρ (r_P h) = 9 := (th_rf ht (R := 6) (by decide) rfl h16 (k := 2) rfl (fun z => by cases z)).2
  have k16 : (h_k h 16).1 = 9 := (t_spec ht (by decide) (rfl : c_sp[6]? = some _) h16).1
  have cP := t_spec ht (by decide) (rfl : c_sp[9]? = some _) fP
  have kP : (h_k h (r_P h)).1 = 31 := cP.1
  have lP : 4 ≤ (h_k h (r_P h)).2 := cP.2.1.1
  refine hI_al (k := 0) rfl rfl rfl ?_
  refine hI_il (k := 1) rfl rfl rfl ?_
  refine hM_iv (MX.start (W := []) ht h16) (by decide) rfl rfl (by decide) (as := [.int xr]) (r := []) rfl rfl (by decide +kernel) rfl (by decide +kernel) rfl rfl rfl rfl rfl ?_
  refine c_isr11 (MX.start (W := []) ht fN) h16 rfl (by decide +kernel) rfl (fun z hz => ?_)
  have hz : (z.toInt = 1 ∧ 0 ≤ xr.toInt ∧ xr.toInt < q_fd h (h_r h 16 0) 5) ∨ (z.toInt = 0 ∧ (xr.toInt < 0 ∨ q_fd h (h_r h 16 0) 5 ≤ xr.toInt)) := hz
  show HJ 90 5 _ [.int z] h Q
  refine hM_zeq (off := 12) (t := 17) rfl (zx := z.toInt) rfl (by decide) rfl (fun c => ?_) (fun c => ?_)
  · refine hI_nul rfl rfl ?_
    exact hI_ra rfl rfl (g 0 (Or.inr ⟨by omega, rfl⟩))
  · refine hI_al (k := 0) rfl rfl rfl ?_
    refine hI_gr rfl rfl rfl k16 rfl ?_
    refine hI_il (k := 1) rfl rfl rfl ?_
    refine hI_aa (o := r_P h) rfl ⟨by rw [kP]; decide, by rw [kP]; decide⟩ (by omega) (by omega) rfl ?_
    refine hI_go (pc' := 18) (off := 4) rfl (by decide) ?_
    exact hI_ra rfl rfl (g _ (Or.inl ⟨by omega, by omega, rfl⟩))
-- the slot of a row that is there, and its past's book
theorem pb_at {r : Int} (ht : TH c_sp ρ h) (n15 : c_PT 15 ρ h) (r0 : 0 ≤ r) (r1 : r < q_fd h (h_r h 16 0) 5) : r.toNat < 4 ∧ r_sl h r.toNat ≠ 0 ∧ bk_0 h (r_sl h r.toNat) (ac_Y h (q_ac h (h_r h 16 0) r.toNat)) ∧ ρ (r_sl h r.toNat) = 29 := by
  obtain ⟨h16, -, k2, -⟩ := n15
  have b5 := (td_bdN ht (nw_ob ht h16)).2.1
  obtain ⟨y1, y2⟩ := k2 r.toNat (by omega)
  exact ⟨by omega, y1, y2, sl_ob ht h16 (by omega) y1⟩
end
-- a row of acts of both sides: one run
theorem ac_ref {h : MH} {c b : Nat} {U : Nat → Int} (a : ac_rel h c U b) (q0 : 0 ≤ q_fd h c 2) (av : av_c h c) : (ry_run (fun j => U (b + 1 + j)) (U b).toNat).1 = ac_Y h c ∧ ∀ q, q < (U b).toNat → av_1 (U (b + 1 + 4 * q)) (U (b + 1 + (4 * q + 2))) (U (b + 1 + (4 * q + 3))) := by
  obtain ⟨a1, a2⟩ := a
  have eN : ac_N h c = (U b).toNat := by
    unfold ac_N
    rw [a1]
  have eT : ∀ j, j < 4 * (U b).toNat → ac_T h c j = U (b + 1 + j) := ac_TI (U := fun j => U (b + 1 + j)) (fun k hk => by
    obtain ⟨y1, y2⟩ := a2 k (by omega)
    exact ⟨y1, fun i hi => by
      show q_nm h c (3 * k + i) = U (b + 1 + (4 * k + 1 + i))
      rw [y2 i hi, show b + 2 + 4 * k + i = b + 1 + (4 * k + 1 + i) by omega]⟩)
  refine ⟨?_, fun q hq => ?_⟩
  · unfold ac_Y
    rw [eN, ry_runC _ eT]
  · have := (av q (by omega)).2.1
    rw [eT (4 * q) (by omega), eT (4 * q + 2) (by omega), eT (4 * q + 3) (by omega)] at this
    exact this
def w_st : List (Nat × Nat) := (49, 0) :: g_la
-- a run's parents lie ahead
-- the law's arguments that are truth values, longs
def bz (x : Int32) : Int32 := if x.toInt = 0 then Int32.ofInt 0 else Int32.ofInt 1
theorem hL_bool {pc : Nat} {x : Int32} {lv : List (Nat × Value)} {st : List Value} {h : MH} {Q : Option Value → MH → Prop} (a1 : m_at 0 pc = some (.ifCond .eq 7, 3)) (a2 : m_at 0 (pc + 3) = some (.iconst 1, 1)) (a3 : m_at 0 (pc + 4) = some (.goto 4, 3)) (a4 : m_at 0 (pc + 7) = some (.iconst 0, 1)) (g : HJ 0 (pc + 8) lv (.int (bz x) :: st) h Q) : HJ 0 pc lv (.int x :: st) h Q := by
  refine hM_zeq (off := 7) (t := pc + 7) a1 (zx := x.toInt) rfl (by omega) rfl (fun c => ?_) (fun c => ?_)
  · refine hI_ic (n := 0) a4 rfl ?_
    rw [show bz x = Int32.ofInt 0 from if_pos c] at g
    exact g
  · refine hI_ic (n := 1) a2 rfl ?_
    refine hI_go (pc' := pc + 8) (off := 4) a3 (by omega) ?_
    rw [show bz x = Int32.ofInt 1 from if_neg c] at g
    exact g
theorem bz_01 (x : Int32) : (bz x).toInt = 0 ∨ (bz x).toInt = 1 := by
  unfold bz
  split
  · exact Or.inl (by decide)
  · exact Or.inr (by decide)

theorem ry_okR {T : Nat → Int} : ∀ N, (∀ k, k < N → av_2 T k) → ∃ k, k ≤ N ∧ ry_ok (ry_run T N).1 k ∧ ((ry_run T N).2 = true → k = N)
  | 0, _ => ⟨0, Nat.le_refl _, ry_ok0, fun _ => rfl⟩
  | N + 1, av => by
    obtain ⟨k, k1, k2, k3⟩ := ry_okR N (fun q hq => av q (by omega))
    by_cases f : (ry_run T N).2 = true
    · have ek := k3 f
      subst ek
      cases e : ry_do (ry_z (ry_run T k).1) (T (4 * k)) (T (4 * k + 1)) (T (4 * k + 2)) (T (4 * k + 3)) with
      | none =>
        rw [ry_run0 f e]
        exact ⟨k, by omega, k2, fun z => absurd (show false = true from z) (by decide)⟩
      | some X =>
        rw [ry_run1 f e]
        exact ⟨k + 1, by omega, ry_okS k2 e (av k (by omega)).2.2, fun _ => rfl⟩
    · have f' : (ry_run T N).2 = false := by simpa using f
      rw [ry_runE f' 1]
      exact ⟨k, by omega, k2, fun z => absurd z f⟩
-- a row laid by the reference is the run of the class's acts
theorem ly_ac {ρ : Nat → Nat} {h : MH} {m : Nat} {VV : Nat → Nat → Int} {r : Int} (ht : TH c_sp ρ h) (n15 : c_PT 15 ρ h) (rN : td_rel h (h_r h 16 0) m 0) (vq : ∀ K j, VV K j = q_vm h m K j) (r0 : 0 ≤ r) (r1 : r < VV 5 0) : (∃ n, n ≤ 40 ∧ ry_ok (ac_Y h (q_ac h (h_r h 16 0) r.toNat)) n) ∧ ∀ F' V', ly_E (fun j => VV 6 (161 * r.toNat + 1 + j)) (VV 6 (161 * r).toNat).toNat F' V' → ry_of (m_u F' 19 0) V' (ry_z (ac_Y h (q_ac h (h_r h 16 0) r.toNat))) := by
  obtain ⟨⟨-, -, -, f5⟩, -, ra⟩ := rN
  have fN := nw_ob ht n15.1
  have b5 := (td_bdN ht fN).2.1
  have e5 : q_fd h (h_r h 16 0) 5 = VV 5 0 := f5.trans (vq 5 0).symm
  have rr : (r.toNat : Int) < q_fd h (h_r h 16 0) 5 := by omega
  have oc := ((td_obN ht fN).2.2 r.toNat (by omega)).1
  have c := (t_spec ht (by decide) (rfl : c_sp[12]? = some _) oc).2.2.2 2 (.inl (0, 40)) rfl (fun z => by cases z)
  have c0 : 0 ≤ q_fd h (q_ac h (h_r h 16 0) r.toNat) 2 ∧ q_fd h (q_ac h (h_r h 16 0) r.toNat) 2 ≤ 40 := c
  have av := n15.2.2.2.1 r.toNat rr
  obtain ⟨w1, w2⟩ := ac_ref (ra r.toNat rr) c0.1 av
  refine ⟨?_, fun F' V' b3 => ?_⟩
  · obtain ⟨k, k1, k2, -⟩ := ry_okR (ac_N h (q_ac h (h_r h 16 0) r.toNat)) (fun k hk => av k (by unfold ac_N at hk; omega))
    have : ac_N h (q_ac h (h_r h 16 0) r.toNat) ≤ 40 := by
      unfold ac_N
      omega
    exact ⟨k, by omega, k2⟩
  · have eU : ∀ j, VV 6 (161 * r.toNat + 1 + j) = q_vm h m 6 (644 * 0 + 161 * r.toNat + 1 + j) := fun j => by
      rw [show 644 * 0 + 161 * r.toNat + 1 + j = 161 * r.toNat + 1 + j by omega]
      exact vq 6 _
    have eB : VV 6 (161 * r).toNat = q_vm h m 6 (644 * 0 + 161 * r.toNat) := by
      rw [show 644 * 0 + 161 * r.toNat = (161 * r).toNat by omega]
      exact vq 6 _
    unfold ly_E at b3
    simp only [eU, eB] at b3
    have b4 := b3 (fun q hq => w2 q hq)
    rw [w1] at b4
    exact b4
-- what an act was paid, by the reference
theorem w_bm (s : Int) : ∃ q : Int, s.bmod (2 ^ 32) = s + 4294967296 * q := by
  show ∃ q : Int, (if s % ((2 ^ 32 : Nat) : Int) < (((2 ^ 32 : Nat) : Int) + 1) / 2 then s % ((2 ^ 32 : Nat) : Int) else s % ((2 ^ 32 : Nat) : Int) - ((2 ^ 32 : Nat) : Int)) = _
  have e : ((2 ^ 32 : Nat) : Int) = 4294967296 := rfl
  rw [e]
  split
  · exact ⟨-(s / 4294967296), by omega⟩
  · exact ⟨-(s / 4294967296) - 1, by omega⟩
theorem w_add (x y : Int32) : ∃ q : Int, (x + y).toInt = x.toInt + y.toInt + 4294967296 * q := by
  rw [Int32.toInt_add]
  exact w_bm _
theorem w_sub (x y : Int32) : ∃ q : Int, (x - y).toInt = x.toInt - y.toInt + 4294967296 * q := by
  rw [Int32.toInt_sub]
  exact w_bm _
section
variable {i pc pc' : Nat} {lv : List (Nat × Value)} {st : List Value} {h : MH} {Q : Option Value → MH → Prop}
theorem hM_addq {x y : Int32} {zx zy : Int} (a : m_at i pc = some (.iadd, 1)) (hx : x.toInt = zx) (hy : y.toInt = zy) (hp : pc + 1 = pc') (g : ∀ (w : Int32) (z q : Int), w.toInt = z → z = zx + zy + 4294967296 * q → HJ i pc' lv (.int w :: st) h Q) : HJ i pc lv (.int y :: .int x :: st) h Q := by
  obtain ⟨q, e⟩ := w_add x y
  exact hI_add a hp (g _ _ q rfl (by rw [e, hx, hy]))
theorem hM_subq {x y : Int32} {zx zy : Int} (a : m_at i pc = some (.isub, 1)) (hx : x.toInt = zx) (hy : y.toInt = zy) (hp : pc + 1 = pc') (g : ∀ (w : Int32) (z q : Int), w.toInt = z → z = zx - zy + 4294967296 * q → HJ i pc' lv (.int w :: st) h Q) : HJ i pc lv (.int y :: .int x :: st) h Q := by
  obtain ⟨q, e⟩ := w_sub x y
  exact hI_sub a hp (g _ _ q rfl (by rw [e, hx, hy]))
theorem hI_ldc {idx : Nat} {x : Int32} (a : m_at i pc = some (.ldc idx, 2)) (hx : m_ic i idx = some x) (hp : pc + 2 = pc') (g : HJ i pc' lv (.int x :: st) h Q) : HJ i pc lv st h Q := by
  subst hp
  refine HJ.ex a (Or.inl rfl) ?_ g
  show e_ldc 2 i idx pc lv st h = _
  unfold e_ldc
  rw [hx]
  rfl
theorem hI_ldw {idx : Nat} {x : Int32} (a : m_at i pc = some (.ldc_w idx, 3)) (hx : m_ic i idx = some x) (hp : pc + 3 = pc') (g : HJ i pc' lv (.int x :: st) h Q) : HJ i pc lv st h Q := by
  subst hp
  refine HJ.ex a (Or.inl rfl) ?_ g
  show e_ldc 3 i idx pc lv st h = _
  unfold e_ldc
  rw [hx]
  rfl
theorem hI_nl {off : Int} {o t : Nat} (a : m_at i pc = some (.ifnull off, 3)) (ht : (pc : Int) + off = (t : Int)) (hp : pc + 3 = pc') (ho : o = 0 ∨ 16 ≤ o) (g1 : o = 0 → HJ i t lv st h Q) (g2 : o ≠ 0 → HJ i pc' lv st h Q) : HJ i pc lv (.ref o :: st) h Q := by
  subst hp
  by_cases e : o = 0
  · refine HJ.ex (pc' := t) a (Or.inl rfl) ?_ (g1 e)
    show (if o = 0 then m_tg pc off lv st h else if 16 ≤ o then m_go (pc + 3) lv st h else none) = _
    rw [if_pos e]
    unfold m_tg
    rw [ht, if_pos (Int.natCast_nonneg t), Int.toNat_natCast]
  · refine HJ.ex (pc' := pc + 3) a (Or.inl rfl) ?_ (g2 e)
    show (if o = 0 then m_tg pc off lv st h else if 16 ≤ o then m_go (pc + 3) lv st h else none) = _
    rw [if_neg e, if_pos (by omega)]
    rfl
theorem hI_tsd {d lo hi : Int} {offs : Array Int} {len t : Nat} {x : Int32} (a : m_at i pc = some (.tableswitch d lo hi offs, len)) (b : x.toInt < lo ∨ hi < x.toInt) (ht : (pc : Int) + d = (t : Int)) (g : HJ i t lv st h Q) : HJ i pc lv (.int x :: st) h Q := by
  refine HJ.ex (pc' := t) a (Or.inr rfl) ?_ g
  show (if x.toInt < lo ∨ hi < x.toInt then m_tg pc d lv st h else (match offs[(x.toInt - lo).toNat]? with
      | some o => m_tg pc o lv st h
      | none => none)) = _
  rw [if_pos b]
  unfold m_tg
  rw [ht, if_pos (Int.natCast_nonneg t), Int.toNat_natCast]
end
-- how many roots
def y_sm (f : Nat → Int) : Nat → Nat
  | 0 => 0
  | r + 1 => y_sm f r + y_tg (f r)
theorem y_smC {f f' : Nat → Int} : ∀ {r : Nat}, (∀ j, j < r → f' j = f j) → y_sm f' r = y_sm f r
  | 0, _ => rfl
  | r + 1, h => by
    rw [y_sm, y_sm, y_smC (fun j hj => h j (by omega)), h r (by omega)]
theorem y_tgB (x : Int) : y_tg x ≤ 1 := by
  unfold y_tg
  split <;> omega
theorem y_smP {f : Nat → Int} : p_bc (p_ws f 6) = y_sm f 6 := by
  have b0 := y_tgB (f 0)
  have b1 := y_tgB (f 1)
  have b2 := y_tgB (f 2)
  have b3 := y_tgB (f 3)
  have b4 := y_tgB (f 4)
  have b5 := y_tgB (f 5)
  show p_bc (0 + y_tg (f 0) * 2 ^ 0 + y_tg (f 1) * 2 ^ 1 + y_tg (f 2) * 2 ^ 2 + y_tg (f 3) * 2 ^ 3 + y_tg (f 4) * 2 ^ 4 + y_tg (f 5) * 2 ^ 5) = 0 + y_tg (f 0) + y_tg (f 1) + y_tg (f 2) + y_tg (f 3) + y_tg (f 4) + y_tg (f 5)
  generalize y_tg (f 0) = a0 at *
  generalize y_tg (f 1) = a1 at *
  generalize y_tg (f 2) = a2 at *
  generalize y_tg (f 3) = a3 at *
  generalize y_tg (f 4) = a4 at *
  generalize y_tg (f 5) = a5 at *
  unfold p_bc
  omega
section
variable {lv : List (Nat × Value)} {Q : Option Value → MH → Prop} {W : List (Nat × Nat)} {ρ : Nat → Nat} {m : Nat} {A : Nat → Nat} {h0 h : MH} {F : Nat → Int} {V : Nat → Nat → Int} {G : Nat → Nat → Int64}
theorem s_cd0 {v : Int} (M : MX 49 W ρ m A h0 h F V G) (e0 : m_lk lv 0 = some (.ref m)) {lx1 : Int32} (e1 : m_lk lv 1 = some (.int lx1)) (lq1 : lx1.toInt = v) 
    (g0 : ∀ x1 : Int32, x1.toInt = 0 → ∀ x3 : Int32, x3.toInt = 0 → ∀ lv4 : List (Nat × Value), m_lk lv4 0 = some (.ref m) → m_lk lv4 1 = some (.int lx1) → m_lk lv4 2 = some (.int x1) → m_lk lv4 3 = some (.int x3) → HJ 225 4 lv4 [] h Q)
    : HJ 225 0 lv [] h Q := by
  refine hM_ic (n := 0) rfl (by decide) rfl (fun x1 q1 => ?_) -- 0
  refine hM_si (k := 2) rfl (by decide +kernel) rfl (fun lv2 e2_2 u2 => ?_) -- 1
  have e2_0 := u2 0 _ (by decide) (Or.inl rfl) e0
  have e2_1 := u2 1 _ (by decide) (Or.inl rfl) e1
  refine hM_ic (n := 0) rfl (by decide) rfl (fun x3 q3 => ?_) -- 2
  refine hM_si (k := 3) rfl (by decide +kernel) rfl (fun lv4 e4_3 u4 => ?_) -- 3
  have e4_0 := u4 0 _ (by decide) (Or.inl rfl) e2_0
  have e4_1 := u4 1 _ (by decide) (Or.inl rfl) e2_1
  have e4_2 := u4 2 _ (by decide) (Or.inl rfl) e2_2
  exact g0 x1 q1 x3 q3 lv4 e4_0 e4_1 e4_2 e4_3
theorem s_cd4 {v n r : Int} (M : MX 49 W ρ m A h0 h F V G) (e0 : m_lk lv 0 = some (.ref m)) {lx1 : Int32} (e1 : m_lk lv 1 = some (.int lx1)) (lq1 : lx1.toInt = v) {lx2 : Int32} (e2 : m_lk lv 2 = some (.int lx2)) (lq2 : lx2.toInt = n) {lx3 : Int32} (e3 : m_lk lv 3 = some (.int lx3)) (lq3 : lx3.toInt = r) (v0 : 0 ≤ v) (v1 : v ≤ 40) (r0 : 0 ≤ r) (n0 : 0 ≤ n) (n1 : n ≤ r)
    (g0 : r ≥ 6 → Q (some (.int lx2)) h)
    (g1 : ∀ x8 : Int32, x8.toInt = n + 1 → ∀ x10 : Int32, x10.toInt = r + 1 → ∀ lv10 : List (Nat × Value), m_lk lv10 0 = some (.ref m) → m_lk lv10 1 = some (.int lx1) → m_lk lv10 2 = some (.int x8) → m_lk lv10 3 = some (.int x10) → r < 6 → (-1) ≤ V 36 ((6 * v) + r).toNat → V 36 ((6 * v) + r).toNat ≤ 15999 → V 36 ((6 * v) + r).toNat ≠ (-1) → HJ 225 4 lv10 [] h Q)
    (g2 : ∀ x12 : Int32, x12.toInt = n + 0 → ∀ x14 : Int32, x14.toInt = r + 1 → ∀ lv14 : List (Nat × Value), m_lk lv14 0 = some (.ref m) → m_lk lv14 1 = some (.int lx1) → m_lk lv14 2 = some (.int x12) → m_lk lv14 3 = some (.int x14) → r < 6 → (-1) ≤ V 36 ((6 * v) + r).toNat → V 36 ((6 * v) + r).toNat ≤ 15999 → V 36 ((6 * v) + r).toNat = (-1) → HJ 225 4 lv14 [] h Q)
    : HJ 225 4 lv [] h Q := by
  refine hI_il (k := 3) rfl e3 rfl ?_ -- 4
  refine hM_bp (n := 6) rfl (by decide) rfl (fun x1 q1 => ?_) -- 5
  refine hM_cge (off := 32) (t := 39) rfl lq3 q1 (by decide) rfl (fun c7 => ?_) (fun c7 => ?_) -- 7
  · refine hI_il (k := 2) rfl e2 rfl ?_ -- 39
    refine hI_ri rfl rfl ?_ -- 40
    exact g0 c7
  · refine hI_il (k := 2) rfl e2 rfl ?_ -- 10
    refine hI_al (k := 0) rfl e0 rfl ?_ -- 11
    refine hM_ga M (by decide) rfl rfl (k := 36) (c := 9) rfl rfl rfl (by decide +kernel) rfl ?_ -- 12
    refine hM_bp (n := 6) rfl (by decide) rfl (fun x2 q2 => ?_) -- 15
    refine hI_il (k := 1) rfl e1 rfl ?_ -- 17
    refine hM_mul rfl q2 lq1 (by omega) (by omega) rfl (fun x3 q3 => ?_) -- 18
    refine hI_il (k := 3) rfl e3 rfl ?_ -- 19
    refine hM_add rfl q3 lq3 (by omega) (by omega) rfl (fun x4 q4 => ?_) -- 20
    refine hM_ia M (by decide) (K := 36) (R2 := 71) (L := 246) (H := 246) (lo := (-1)) (hi := 15999) rfl (by decide) rfl rfl (fun _ => rfl) rfl q4 (by omega) (by omega) rfl (fun x5 q5 a5 b5 => ?_) -- 21
    refine hM_ic (n := (-1)) rfl (by decide) rfl (fun x6 q6 => ?_) -- 22
    refine hM_cne (off := 7) (t := 30) rfl q5 q6 (by decide) rfl (fun c23 => ?_) (fun c23 => ?_) -- 23
    · refine hM_ic (n := 1) rfl (by decide) rfl (fun x7 q7 => ?_) -- 30
      refine hM_add rfl lq2 q7 (by omega) (by omega) rfl (fun x8 q8 => ?_) -- 31
      refine hM_si (k := 2) rfl (by decide +kernel) rfl (fun lv9 e9_2 u9 => ?_) -- 32
      have e9_0 := u9 0 _ (by decide) (Or.inl rfl) e0
      have e9_1 := u9 1 _ (by decide) (Or.inl rfl) e1
      have e9_3 := u9 3 _ (by decide) (Or.inl rfl) e3
      refine hM_inc (k := 3) (z := 1) rfl e9_3 lq3 (by decide) (by omega) (by omega) (by decide +kernel) rfl (fun lv10 x10 q10 e10_3 u10 => ?_) -- 33
      have e10_0 := u10 0 _ (by decide) (Or.inl rfl) e9_0
      have e10_1 := u10 1 _ (by decide) (Or.inl rfl) e9_1
      have e10_2 := u10 2 _ (by decide) (Or.inl rfl) e9_2
      refine hI_go (pc' := 4) (off := (-32)) rfl (by decide) ?_ -- 36
      exact g1 x8 q8 x10 q10 lv10 e10_0 e10_1 e10_2 e10_3 c7 a5 b5 c23
    · refine hM_ic (n := 0) rfl (by decide) rfl (fun x11 q11 => ?_) -- 26
      refine hI_go (pc' := 31) (off := 4) rfl (by decide) ?_ -- 27
      refine hM_add rfl lq2 q11 (by omega) (by omega) rfl (fun x12 q12 => ?_) -- 31
      refine hM_si (k := 2) rfl (by decide +kernel) rfl (fun lv13 e13_2 u13 => ?_) -- 32
      have e13_0 := u13 0 _ (by decide) (Or.inl rfl) e0
      have e13_1 := u13 1 _ (by decide) (Or.inl rfl) e1
      have e13_3 := u13 3 _ (by decide) (Or.inl rfl) e3
      refine hM_inc (k := 3) (z := 1) rfl e13_3 lq3 (by decide) (by omega) (by omega) (by decide +kernel) rfl (fun lv14 x14 q14 e14_3 u14 => ?_) -- 33
      have e14_0 := u14 0 _ (by decide) (Or.inl rfl) e13_0
      have e14_1 := u14 1 _ (by decide) (Or.inl rfl) e13_1
      have e14_2 := u14 2 _ (by decide) (Or.inl rfl) e13_2
      refine hI_go (pc' := 4) (off := (-32)) rfl (by decide) ?_ -- 36
      exact g2 x12 q12 x14 q14 lv14 e14_0 e14_1 e14_2 e14_3 c7 a5 b5 c23
theorem s_pd0 {k : Int} (M : MX 49 W ρ m A h0 h F V G) (e0 : m_lk lv 0 = some (.ref m)) {lx1 : Int32} (e1 : m_lk lv 1 = some (.int lx1)) (lq1 : lx1.toInt = k) (k0 : 0 ≤ k) (k1 : k ≤ 39)
    (g0 : ∀ x1 : Int32, x1.toInt = V 38 (k).toNat → ∀ x3 : Int32, x3.toInt = k + 1 → HJ 225 0 (lv_args 0 [.ref m, .int x3]) [] h (fun v h' => HJ 224 13 lv (v.toList ++ [.int x1]) h' Q))
    : HJ 224 0 lv [] h Q := by
  refine hI_al (k := 0) rfl e0 rfl ?_ -- 0
  refine hM_ga M (by decide) rfl rfl (k := 38) (c := 9) rfl rfl rfl (by decide +kernel) rfl ?_ -- 1
  refine hI_il (k := 1) rfl e1 rfl ?_ -- 4
  refine hM_ia M (by decide) (K := 38) (R2 := 73) (L := 40) (H := 40) (lo := (-2147483648)) (hi := 2147483647) rfl (by decide) rfl rfl (fun _ => rfl) rfl lq1 (by omega) (by omega) rfl (fun x1 q1 a1 b1 => ?_) -- 5
  refine hI_al (k := 0) rfl e0 rfl ?_ -- 6
  refine hI_il (k := 1) rfl e1 rfl ?_ -- 7
  refine hM_ic (n := 1) rfl (by decide) rfl (fun x2 q2 => ?_) -- 8
  refine hM_add rfl lq1 q2 (by omega) (by omega) rfl (fun x3 q3 => ?_) -- 9
  refine hM_iv M (by decide) rfl rfl (by decide) (as := [.int x3]) (r := [.int x1]) rfl rfl (by decide +kernel) rfl (by decide +kernel) rfl rfl rfl rfl rfl ?_ -- 10
  exact g0 x1 q1 x3 q3
theorem s_pd13 {k l c : Int} (M : MX 49 W ρ m A h0 h F V G) (e0 : m_lk lv 0 = some (.ref m)) {lx1 : Int32} (e1 : m_lk lv 1 = some (.int lx1)) (lq1 : lx1.toInt = k) {sx0 : Int32} (sq0 : sx0.toInt = l) {sx1 : Int32} (sq1 : sx1.toInt = c) (k0 : 0 ≤ k) (k1 : k ≤ 39)
    (g0 : ∀ x1 : Int32, ∀ z1 : Int, ∀ k1 : Int, x1.toInt = z1 → z1 = l + c + 4294967296 * k1 → ∀ lv2 : List (Nat × Value), m_lk lv2 0 = some (.ref m) → m_lk lv2 1 = some (.int lx1) → m_lk lv2 2 = some (.int x1) → HJ 224 15 lv2 [] h Q)
    : HJ 224 13 lv [.int sx1, .int sx0] h Q := by
  refine hM_addq rfl sq0 sq1 rfl (fun x1 z1 k1 q1 c1 => ?_) -- 13
  refine hM_si (k := 2) rfl (by decide +kernel) rfl (fun lv2 e2_2 u2 => ?_) -- 14
  have e2_0 := u2 0 _ (by decide) (Or.inl rfl) e0
  have e2_1 := u2 1 _ (by decide) (Or.inl rfl) e1
  exact g0 x1 z1 k1 q1 c1 lv2 e2_0 e2_1 e2_2
theorem s_pd15 {k s : Int} (M : MX 49 W ρ m A h0 h F V G) (e0 : m_lk lv 0 = some (.ref m)) {lx1 : Int32} (e1 : m_lk lv 1 = some (.int lx1)) (lq1 : lx1.toInt = k) {lx2 : Int32} (e2 : m_lk lv 2 = some (.int lx2)) (lq2 : lx2.toInt = s) (k0 : 0 ≤ k) (k1 : k ≤ 39)
    (g0 : ∀ x7 : Int32, x7.toInt = V 39 (k + 1).toNat → (-1) ≤ V 39 (k + 1).toNat → V 39 (k + 1).toNat ≤ 40 → V 39 (k + 1).toNat ≠ (-1) → HJ 225 0 (lv_args 0 [.ref m, .int x7]) [] h (fun v h' => HJ 224 44 lv (v.toList ++ [.int lx2]) h' Q))
    (g1 : ∀ x9 : Int32, ∀ z9 : Int, ∀ k9 : Int, x9.toInt = z9 → z9 = s - 0 + 4294967296 * k9 → ∀ lv10 : List (Nat × Value), m_lk lv10 0 = some (.ref m) → m_lk lv10 1 = some (.int lx1) → m_lk lv10 2 = some (.int x9) → (-1) ≤ V 39 (k + 1).toNat → V 39 (k + 1).toNat ≤ 40 → V 39 (k + 1).toNat = (-1) → HJ 224 46 lv10 [] h Q)
    : HJ 224 15 lv [] h Q := by
  refine hI_il (k := 2) rfl e2 rfl ?_ -- 15
  refine hI_al (k := 0) rfl e0 rfl ?_ -- 16
  refine hM_ga M (by decide) rfl rfl (k := 39) (c := 9) rfl rfl rfl (by decide +kernel) rfl ?_ -- 17
  refine hI_il (k := 1) rfl e1 rfl ?_ -- 20
  refine hM_ic (n := 1) rfl (by decide) rfl (fun x1 q1 => ?_) -- 21
  refine hM_add rfl lq1 q1 (by omega) (by omega) rfl (fun x2 q2 => ?_) -- 22
  refine hM_ia M (by decide) (K := 39) (R2 := 74) (L := 41) (H := 41) (lo := (-1)) (hi := 40) rfl (by decide) rfl rfl (fun _ => rfl) rfl q2 (by omega) (by omega) rfl (fun x3 q3 a3 b3 => ?_) -- 23
  refine hM_ic (n := (-1)) rfl (by decide) rfl (fun x4 q4 => ?_) -- 24
  refine hM_cne (off := 7) (t := 32) rfl q3 q4 (by decide) rfl (fun c25 => ?_) (fun c25 => ?_) -- 25
  · refine hI_al (k := 0) rfl e0 rfl ?_ -- 32
    refine hI_al (k := 0) rfl e0 rfl ?_ -- 33
    refine hM_ga M (by decide) rfl rfl (k := 39) (c := 9) rfl rfl rfl (by decide +kernel) rfl ?_ -- 34
    refine hI_il (k := 1) rfl e1 rfl ?_ -- 37
    refine hM_ic (n := 1) rfl (by decide) rfl (fun x5 q5 => ?_) -- 38
    refine hM_add rfl lq1 q5 (by omega) (by omega) rfl (fun x6 q6 => ?_) -- 39
    refine hM_ia M (by decide) (K := 39) (R2 := 74) (L := 41) (H := 41) (lo := (-1)) (hi := 40) rfl (by decide) rfl rfl (fun _ => rfl) rfl q6 (by omega) (by omega) rfl (fun x7 q7 a7 b7 => ?_) -- 40
    refine hM_iv M (by decide) rfl rfl (by decide) (as := [.int x7]) (r := [.int lx2]) rfl rfl (by decide +kernel) rfl (by decide +kernel) rfl rfl rfl rfl rfl ?_ -- 41
    exact g0 x7 q7 a3 b3 c25
  · refine hM_ic (n := 0) rfl (by decide) rfl (fun x8 q8 => ?_) -- 28
    refine hI_go (pc' := 44) (off := 15) rfl (by decide) ?_ -- 29
    refine hM_subq rfl lq2 q8 rfl (fun x9 z9 k9 q9 c9 => ?_) -- 44
    refine hM_si (k := 2) rfl (by decide +kernel) rfl (fun lv10 e10_2 u10 => ?_) -- 45
    have e10_0 := u10 0 _ (by decide) (Or.inl rfl) e0
    have e10_1 := u10 1 _ (by decide) (Or.inl rfl) e1
    exact g1 x9 z9 k9 q9 c9 lv10 e10_0 e10_1 e10_2 a3 b3 c25
theorem s_pd44 {k w s c : Int} (M : MX 49 W ρ m A h0 h F V G) (e0 : m_lk lv 0 = some (.ref m)) {lx1 : Int32} (e1 : m_lk lv 1 = some (.int lx1)) (lq1 : lx1.toInt = k) {lx2 : Int32} (e2 : m_lk lv 2 = some (.int lx2)) (lq2 : lx2.toInt = w) {sx0 : Int32} (sq0 : sx0.toInt = s) {sx1 : Int32} (sq1 : sx1.toInt = c) (k0 : 0 ≤ k) (k1 : k ≤ 39)
    (g0 : ∀ x1 : Int32, ∀ z1 : Int, ∀ k1 : Int, x1.toInt = z1 → z1 = s - c + 4294967296 * k1 → ∀ lv2 : List (Nat × Value), m_lk lv2 0 = some (.ref m) → m_lk lv2 1 = some (.int lx1) → m_lk lv2 2 = some (.int x1) → HJ 224 46 lv2 [] h Q)
    : HJ 224 44 lv [.int sx1, .int sx0] h Q := by
  refine hM_subq rfl sq0 sq1 rfl (fun x1 z1 k1 q1 c1 => ?_) -- 44
  refine hM_si (k := 2) rfl (by decide +kernel) rfl (fun lv2 e2_2 u2 => ?_) -- 45
  have e2_0 := u2 0 _ (by decide) (Or.inl rfl) e0
  have e2_1 := u2 1 _ (by decide) (Or.inl rfl) e1
  exact g0 x1 z1 k1 q1 c1 lv2 e2_0 e2_1 e2_2
theorem s_pd46 {k s : Int} (M : MX 49 W ρ m A h0 h F V G) (e0 : m_lk lv 0 = some (.ref m)) {lx1 : Int32} (e1 : m_lk lv 1 = some (.int lx1)) (lq1 : lx1.toInt = k) {lx2 : Int32} (e2 : m_lk lv 2 = some (.int lx2)) (lq2 : lx2.toInt = s) (k0 : 0 ≤ k) (k1 : k ≤ 39)
    (g0 : ∀ x7 : Int32, x7.toInt = V 40 (k + 1).toNat → (-1) ≤ V 40 (k + 1).toNat → V 40 (k + 1).toNat ≤ 40 → V 40 (k + 1).toNat ≠ (-1) → HJ 225 0 (lv_args 0 [.ref m, .int x7]) [] h (fun v h' => HJ 224 75 lv (v.toList ++ [.int lx2]) h' Q))
    (g1 : ∀ x9 : Int32, ∀ z9 : Int, ∀ k9 : Int, x9.toInt = z9 → z9 = s - 0 + 4294967296 * k9 → ∀ lv10 : List (Nat × Value), m_lk lv10 0 = some (.ref m) → m_lk lv10 1 = some (.int lx1) → m_lk lv10 2 = some (.int x9) → (-1) ≤ V 40 (k + 1).toNat → V 40 (k + 1).toNat ≤ 40 → V 40 (k + 1).toNat = (-1) → HJ 224 77 lv10 [] h Q)
    : HJ 224 46 lv [] h Q := by
  refine hI_il (k := 2) rfl e2 rfl ?_ -- 46
  refine hI_al (k := 0) rfl e0 rfl ?_ -- 47
  refine hM_ga M (by decide) rfl rfl (k := 40) (c := 9) rfl rfl rfl (by decide +kernel) rfl ?_ -- 48
  refine hI_il (k := 1) rfl e1 rfl ?_ -- 51
  refine hM_ic (n := 1) rfl (by decide) rfl (fun x1 q1 => ?_) -- 52
  refine hM_add rfl lq1 q1 (by omega) (by omega) rfl (fun x2 q2 => ?_) -- 53
  refine hM_ia M (by decide) (K := 40) (R2 := 75) (L := 41) (H := 41) (lo := (-1)) (hi := 40) rfl (by decide) rfl rfl (fun _ => rfl) rfl q2 (by omega) (by omega) rfl (fun x3 q3 a3 b3 => ?_) -- 54
  refine hM_ic (n := (-1)) rfl (by decide) rfl (fun x4 q4 => ?_) -- 55
  refine hM_cne (off := 7) (t := 63) rfl q3 q4 (by decide) rfl (fun c56 => ?_) (fun c56 => ?_) -- 56
  · refine hI_al (k := 0) rfl e0 rfl ?_ -- 63
    refine hI_al (k := 0) rfl e0 rfl ?_ -- 64
    refine hM_ga M (by decide) rfl rfl (k := 40) (c := 9) rfl rfl rfl (by decide +kernel) rfl ?_ -- 65
    refine hI_il (k := 1) rfl e1 rfl ?_ -- 68
    refine hM_ic (n := 1) rfl (by decide) rfl (fun x5 q5 => ?_) -- 69
    refine hM_add rfl lq1 q5 (by omega) (by omega) rfl (fun x6 q6 => ?_) -- 70
    refine hM_ia M (by decide) (K := 40) (R2 := 75) (L := 41) (H := 41) (lo := (-1)) (hi := 40) rfl (by decide) rfl rfl (fun _ => rfl) rfl q6 (by omega) (by omega) rfl (fun x7 q7 a7 b7 => ?_) -- 71
    refine hM_iv M (by decide) rfl rfl (by decide) (as := [.int x7]) (r := [.int lx2]) rfl rfl (by decide +kernel) rfl (by decide +kernel) rfl rfl rfl rfl rfl ?_ -- 72
    exact g0 x7 q7 a3 b3 c56
  · refine hM_ic (n := 0) rfl (by decide) rfl (fun x8 q8 => ?_) -- 59
    refine hI_go (pc' := 75) (off := 15) rfl (by decide) ?_ -- 60
    refine hM_subq rfl lq2 q8 rfl (fun x9 z9 k9 q9 c9 => ?_) -- 75
    refine hM_si (k := 2) rfl (by decide +kernel) rfl (fun lv10 e10_2 u10 => ?_) -- 76
    have e10_0 := u10 0 _ (by decide) (Or.inl rfl) e0
    have e10_1 := u10 1 _ (by decide) (Or.inl rfl) e1
    exact g1 x9 z9 k9 q9 c9 lv10 e10_0 e10_1 e10_2 a3 b3 c56
theorem s_pd75 {k w s c : Int} (M : MX 49 W ρ m A h0 h F V G) (e0 : m_lk lv 0 = some (.ref m)) {lx1 : Int32} (e1 : m_lk lv 1 = some (.int lx1)) (lq1 : lx1.toInt = k) {lx2 : Int32} (e2 : m_lk lv 2 = some (.int lx2)) (lq2 : lx2.toInt = w) {sx0 : Int32} (sq0 : sx0.toInt = s) {sx1 : Int32} (sq1 : sx1.toInt = c) (k0 : 0 ≤ k) (k1 : k ≤ 39)
    (g0 : ∀ x1 : Int32, ∀ z1 : Int, ∀ k1 : Int, x1.toInt = z1 → z1 = s - c + 4294967296 * k1 → ∀ lv2 : List (Nat × Value), m_lk lv2 0 = some (.ref m) → m_lk lv2 1 = some (.int lx1) → m_lk lv2 2 = some (.int x1) → HJ 224 77 lv2 [] h Q)
    : HJ 224 75 lv [.int sx1, .int sx0] h Q := by
  refine hM_subq rfl sq0 sq1 rfl (fun x1 z1 k1 q1 c1 => ?_) -- 75
  refine hM_si (k := 2) rfl (by decide +kernel) rfl (fun lv2 e2_2 u2 => ?_) -- 76
  have e2_0 := u2 0 _ (by decide) (Or.inl rfl) e0
  have e2_1 := u2 1 _ (by decide) (Or.inl rfl) e1
  exact g0 x1 z1 k1 q1 c1 lv2 e2_0 e2_1 e2_2
theorem s_pd77 {k s : Int} (M : MX 49 W ρ m A h0 h F V G) (e0 : m_lk lv 0 = some (.ref m)) {lx1 : Int32} (e1 : m_lk lv 1 = some (.int lx1)) (lq1 : lx1.toInt = k) {lx2 : Int32} (e2 : m_lk lv 2 = some (.int lx2)) (lq2 : lx2.toInt = s) 
    (g0 : Q (some (.int lx2)) h)
    : HJ 224 77 lv [] h Q := by
  refine hI_il (k := 2) rfl e2 rfl ?_ -- 77
  refine hI_ri rfl rfl ?_ -- 78
  exact g0 
theorem l_mcr {v : Int} {xv : Int32} (M : MX 49 W ρ m A h0 h F V G) (qv : xv.toInt = v) (v0 : 0 ≤ v) (v40 : v ≤ 40) (g : ∀ x : Int32, x.toInt = (y_sm (fun r => V 36 (6 * v.toNat + r)) 6 : Int) → Q (some (.int x)) h) : ∀ (d r : Nat) (lv : List (Nat × Value)) (xn xr : Int32), r + d = 6 → xn.toInt = (y_sm (fun r => V 36 (6 * v.toNat + r)) r : Int) → y_sm (fun r => V 36 (6 * v.toNat + r)) r ≤ r → xr.toInt = (r : Int) → m_lk lv 0 = some (.ref m) → m_lk lv 1 = some (.int xv) → m_lk lv 2 = some (.int xn) → m_lk lv 3 = some (.int xr) → HJ 225 4 lv [] h Q := by
  intro d
  induction d with
  | zero =>
    intro r lv xn xr hd qn bn qr e0 e1 e2 e3
    have er : r = 6 := by omega
    subst er
    exact s_cd4 M e0 e1 qv e2 qn e3 qr v0 v40 (by omega) (by omega) (by omega) (fun _ => g xn qn) (fun _ _ _ _ _ _ _ _ _ c => absurd c (by omega)) (fun _ _ _ _ _ _ _ _ _ c => absurd c (by omega))
  | succ d ih =>
    intro r lv xn xr hd qn bn qr e0 e1 e2 e3
    have ej : (6 * v + (r : Int)).toNat = 6 * v.toNat + r := by omega
    refine s_cd4 M e0 e1 qv e2 qn e3 qr v0 v40 (by omega) (by omega) (by omega) (fun c => absurd c (by omega)) (fun x8 q8 x10 q10 lv1 a0 a1 a2 a3 _ _ _ c => ?_) (fun x8 q8 x10 q10 lv1 a0 a1 a2 a3 _ _ _ c => ?_)
    · rw [ej] at c
      have e : y_sm (fun r => V 36 (6 * v.toNat + r)) (r + 1) = y_sm (fun r => V 36 (6 * v.toNat + r)) r + 1 := by
        rw [y_sm, y_tg1 c]
      exact ih (r + 1) lv1 x8 x10 (by omega) (by rw [e]; omega) (by rw [e]; omega) (by omega) a0 a1 a2 a3
    · rw [ej] at c
      have e : y_sm (fun r => V 36 (6 * v.toNat + r)) (r + 1) = y_sm (fun r => V 36 (6 * v.toNat + r)) r := by
        rw [y_sm, y_tg0 c, Nat.add_zero]
      exact ih (r + 1) lv1 x8 x10 (by omega) (by rw [e]; omega) (by rw [e]; omega) (by omega) a0 a1 a2 a3
theorem c_mcr {v : Int} {xv : Int32} (M : MX 49 W ρ m A h0 h F V G) (qv : xv.toInt = v) (v0 : 0 ≤ v) (v40 : v ≤ 40) (g : ∀ x : Int32, x.toInt = (y_sm (fun r => V 36 (6 * v.toNat + r)) 6 : Int) → Q (some (.int x)) h) : HJ 225 0 (lv_args 0 [.ref m, .int xv]) [] h Q :=
  s_cd0 M rfl rfl qv (fun x1 q1 x3 q3 lv a0 a1 a2 a3 => l_mcr M qv v0 v40 g 6 0 lv x1 x3 rfl q1 (Nat.le_refl _) q3 a0 a1 a2 a3)
def cr_V (V : Nat → Nat → Int) (v : Int) : Int := if v = -1 then 0 else (y_sm (fun r => V 36 (6 * v.toNat + r)) 6 : Int)
theorem c_mpaid {k : Int} {xk : Int32} (M : MX 49 W ρ m A h0 h F V G) (qk : xk.toInt = k) (k0 : 0 ≤ k) (k39 : k ≤ 39) (g : ∀ (x : Int32) (w : Int), x.toInt = V 38 k.toNat + (y_sm (fun r => V 36 (6 * (k + 1).toNat + r)) 6 : Int) - cr_V V (V 39 (k + 1).toNat) - cr_V V (V 40 (k + 1).toNat) + 4294967296 * w → Q (some (.int x)) h) : HJ 224 0 (lv_args 0 [.ref m, .int xk]) [] h Q := by
  refine s_pd0 M rfl rfl qk k0 k39 (fun x1 q1 x3 q3 => c_mcr M q3 (by omega) (by omega) (fun xc qc => ?_))
  show HJ 224 13 _ [.int xc, .int x1] h Q
  have last : ∀ (lv : List (Nat × Value)) (x : Int32) (s w : Int), x.toInt = s → s = V 38 k.toNat + (y_sm (fun r => V 36 (6 * (k + 1).toNat + r)) 6 : Int) - cr_V V (V 39 (k + 1).toNat) - cr_V V (V 40 (k + 1).toNat) + 4294967296 * w → m_lk lv 0 = some (.ref m) → m_lk lv 1 = some (.int xk) → m_lk lv 2 = some (.int x) → HJ 224 77 lv [] h Q := fun lv x s w q e a0 a1 a2 => s_pd77 M a0 a1 qk a2 q (g x w (by rw [q, e]))
  have mid : ∀ (lv : List (Nat × Value)) (x : Int32) (s w : Int), x.toInt = s → s = V 38 k.toNat + (y_sm (fun r => V 36 (6 * (k + 1).toNat + r)) 6 : Int) - cr_V V (V 39 (k + 1).toNat) + 4294967296 * w → m_lk lv 0 = some (.ref m) → m_lk lv 1 = some (.int xk) → m_lk lv 2 = some (.int x) → HJ 224 46 lv [] h Q := fun lv x s w q e a0 a1 a2 => by
    refine s_pd46 M a0 a1 qk a2 q k0 k39 (fun x7 q7 l7 u7 c => ?_) (fun x9 z9 w9 q9 c9 lv1 b0 b1 b2 _ _ c => ?_)
    · refine c_mcr M q7 (by omega) u7 (fun xd qd => ?_)
      show HJ 224 75 lv [.int xd, .int x] h Q
      refine s_pd75 M a0 a1 qk a2 q q qd k0 k39 (fun y z w2 qz cz lv1 b0 b1 b2 => last lv1 y z (w + w2) qz ?_ b0 b1 b2)
      have e3 : cr_V V (V 40 (k + 1).toNat) = (y_sm (fun r => V 36 (6 * (V 40 (k + 1).toNat).toNat + r)) 6 : Int) := if_neg c
      rw [cz, e, e3]
      omega
    · refine last lv1 x9 z9 (w + w9) q9 ?_ b0 b1 b2
      have e3 : cr_V V (V 40 (k + 1).toNat) = 0 := if_pos c
      rw [c9, e, e3]
      omega
  refine s_pd13 M rfl rfl qk q1 qc k0 k39 (fun x z w q c lv a0 a1 a2 => ?_)
  refine s_pd15 M a0 a1 qk a2 q k0 k39 (fun x7 q7 l7 u7 c7 => ?_) (fun x9 z9 w9 q9 c9 lv1 b0 b1 b2 _ _ c8 => ?_)
  · refine c_mcr M q7 (by omega) u7 (fun xd qd => ?_)
    show HJ 224 44 lv [.int xd, .int x] h Q
    refine s_pd44 M a0 a1 qk a2 q q qd k0 k39 (fun y z2 w2 qz cz lv1 b0 b1 b2 => mid lv1 y z2 (w + w2) qz ?_ b0 b1 b2)
    have e3 : cr_V V (V 39 (k + 1).toNat) = (y_sm (fun r => V 36 (6 * (V 39 (k + 1).toNat).toNat + r)) 6 : Int) := if_neg c7
    rw [cz, c, e3]
    omega
  · refine mid lv1 x9 z9 (w + w9) q9 ?_ b0 b1 b2
    have e3 : cr_V V (V 39 (k + 1).toNat) = 0 := if_pos c8
    rw [c9, c, e3]
    omega
end
-- the reference's books of a laid row
theorem di_rf {Y : RYt} {F : Nat → Int} {V : Nat → Nat → Int} {k n : Nat} {w x : Int} (y : ry_of F V (ry_z Y)) (o : ry_ok Y n) (hk : k + 1 < ry_v Y) (e : x = V 38 k + (y_sm (fun r => V 36 (6 * (((k : Int) + 1).toNat) + r)) 6 : Int) - cr_V V (V 39 ((k : Int) + 1).toNat) - cr_V V (V 40 ((k : Int) + 1).toNat) + 4294967296 * w) : x = ry_pd Y k + 4294967296 * w := by
  obtain ⟨-, -, -, y36, y39, y37⟩ := y
  have y36 : ∀ j, j < 6 * ry_v Y → V 36 j = ry_r Y j := y36
  have y39 : ∀ v, v < ry_v Y → V 39 v = ry_a Y v ∧ V 40 v = ry_b Y v := y39
  have y37 : ∀ k, k + 1 < ry_v Y → V 37 k = ry_m Y k ∧ V 38 k = ry_l Y k := y37
  have k1 : ((k : Int) + 1).toNat = k + 1 := by omega
  have sm : ∀ v : Int, 0 ≤ v → v < (ry_v Y : Int) → y_sm (fun r => V 36 (6 * v.toNat + r)) 6 = p_bc (p_ws (ry_h Y v) 6) := fun v v0 v1 => by
    rw [y_smP]
    exact y_smC (fun j hj => y36 _ (by omega))
  have cr : ∀ v : Int, -1 ≤ v → v < (ry_v Y : Int) → cr_V V v = cr_of Y v := fun v v0 v1 => by
    unfold cr_V cr_of
    by_cases c : v = -1
    · rw [if_pos c, if_pos c]
    · rw [if_neg c, if_neg c, sm v (by omega) v1]
  obtain ⟨⟨a0, a1⟩, b0, b1⟩ := o.2.2 (k + 1) hk
  obtain ⟨e39, e40⟩ := y39 (k + 1) hk
  have s1 := sm ((k + 1 : Nat) : Int) (by omega) (by omega)
  rw [Int.toNat_natCast] at s1
  rw [e, k1, (y37 k hk).2, e39, e40, cr _ a0 (by omega), cr _ b0 (by omega), s1]
  rfl
-- WOULD, FOLD, DRAWN: all that is told stays (token 15 with the nodes told)
theorem tb_okT {ρ : Nat → Nat} {h : MH} {p r : Nat} (ht : TH c_sp ρ h) (hp : ρ p = 29) (hr : ρ r = 36 ∨ ρ r = 37) : tb_ok h p r := by
  have rw_ := past_row ht hp
  rcases hr with hr | hr
  · have c := t_spec ht (by decide) (rfl : c_sp[36]? = some _) hr
    have l : 5 ≤ (h_k h r).2 ∧ (h_k h r).2 ≤ 5 := c.2.1
    exact ⟨⟨c.1, c.2.2.1 rfl, (ht.2 r (by rw [hr]; decide)).1, l.1, by omega⟩, fun i hi => ne_r hr (rw_ i hi) (Ne.symm (pa_Rt i hi).1)⟩
  · have c := t_spec ht (by decide) (rfl : c_sp[37]? = some _) hr
    have l : 5 ≤ (h_k h r).2 ∧ (h_k h r).2 ≤ 5 := c.2.1
    exact ⟨⟨c.1, c.2.2.1 rfl, (ht.2 r (by rw [hr]; decide)).1, l.1, by omega⟩, fun i hi => ne_r hr (rw_ i hi) (Ne.symm (pa_Rt i hi).2)⟩
theorem pr_bk {h : MH} {pa : Nat} {Y : RYt} (B : bk_0 h pa Y) : pr_of h pa Y := by
  obtain ⟨⟨b1, b2, b3⟩, b4, -, -, -, -, -, b8⟩ := B
  exact ⟨⟨b1, b2, b3⟩, fun v hv => ⟨fun r hr => b8 v hv r hr, b4 v hv⟩⟩
-- the past that did it: its books stay
theorem bk_own {h h' : MH} {pa : Nat} {Y : RYt} (ok : pa_ok h pa) (t9 : tb_ok h pa (h_r h pa 9)) (t10 : tb_ok h pa (h_r h pa 10)) (F : FW (h_r h pa 0) (bf_Y h pa) h h') (I : ∃ l, cs_of h' (z_i h') (h_r h pa 0) (ps_le (ry_s Y) l)) (Z : ∀ q, q ≠ 13 → z_i h' pa q = z_i h pa q) (K : ∀ j, j < ps_n (ry_s Y) → h_l h' (h_r h' (h_r h pa 0) 1) j = h_l h (h_r h (h_r h pa 0) 1) j) (B : bk_0 h pa Y) : bk_0 h' pa Y := by
  obtain ⟨re, e4, rw_⟩ := pw_FW ok F
  have b := ok.2.2.2.2.2.2.1
  have c := ok.2.2.2.2.2.2.2
  have n := ok.2.1
  have kp : ∀ i, i < 59 → 12 ≤ i → ∀ j, z_i h' (pa_w h' pa i) j = z_i h (pa_w h pa i) j := fun i hi h12 j => by
    rw [rw_ i hi (by omega)]
    obtain ⟨k1, k2, k3, -⟩ := b i hi
    refine ((F.2.2 _ k3).2.2 (fun z => ?_)).1 j
    rcases z with z | z | z | (z | z | ⟨q, hq, z⟩) | z | z
    · rw [z, n.1.1] at k1
      omega
    · exact c i 11 hi (by decide) (by omega) z
    · rw [z, n.2.2.1.1] at k1
      omega
    · rw [z, ok.1.1] at k1
      omega
    · rw [z, ok.2.2.1.1] at k1
      omega
    · exact c i q hi (by omega) (by omega) z
    · exact t9.2 i hi z.symm
    · exact t10.2 i hi z.symm
  have ln : h_r h pa 1 ≠ h_r h pa 0 := fun z => by
    have := ok.2.2.2.2.1.1
    rw [z, n.1.1] at this
    omega
  have r2 : h_r h' (h_r h pa 1) 2 = h_r h (h_r h pa 1) 2 := (F.2.2 _ ok.2.2.2.2.1.2.2).2.1 2 (fun z => ln z.1)
  obtain ⟨f1, f2, f3, f4, f5⟩ := pa_fr ok
  have kf := ok.2.2.2.2.2.1
  have hl : ∀ j, h_l h' (h_r h (h_r h pa 1) 2) j = h_l h (h_r h (h_r h pa 1) 2) j := by
    refine ((F.2.2 _ kf.2.2.2.1).2.2 (fun z => ?_)).2
    rcases z with z | z | z | (z | z | ⟨q, hq, z⟩) | z | z
    · exact f3 z
    · exact f1 11 (by decide) z
    · exact f5 z
    · exact f2 z
    · exact f4 z
    · exact f1 q (by omega) z
    · have := t9.1.1
      rw [← z, kf.1] at this
      omega
    · have := t10.1.1
      rw [← z, kf.1] at this
      omega
  obtain ⟨b1, b2, b3, b4, ⟨b5, bd⟩, -, b7, b8⟩ := B
  have e11 : (h_i h' pa 11).toInt = (h_i h pa 11).toInt := Z 11 (by decide)
  have v41 := b1.2.2
  refine ⟨by rw [e11]; exact b1, fun v hv => (kp 12 (by decide) (by decide) v).trans (b2 v hv), fun k hk => ⟨(kp 13 (by decide) (by decide) k).trans (b3 k hk).1, (kp 14 (by decide) (by decide) k).trans (b3 k hk).2.1, (kp 15 (by decide) (by decide) k).trans (b3 k hk).2.2⟩, fun v hv => ⟨(kp 16 (by decide) (by decide) v).trans (b4 v hv).1, (kp 17 (by decide) (by decide) v).trans (b4 v hv).2⟩, ⟨?_, fun j hj => by rw [re 0]; exact (K j hj).trans (bd j hj)⟩, by rw [re 0]; exact I, (Z 12 (by decide)).trans b7, fun v hv r hr => (kp (18 + v) (by omega) (by omega) r).trans (b8 v hv r hr)⟩
  have e : h_l h' (h_r h' (h_r h' pa 1) 2) = h_l h (h_r h (h_r h pa 1) 2) := by
    rw [re 1, r2]
    exact funext hl
  rw [e]
  exact b5
def wp_E (h h' : MH) : Prop := pl_t h' ∧ (∀ j, r_sl h' j = r_sl h j) ∧ ∀ r : Nat, (r : Int) < q_fd h (h_r h 16 0) 5 → bk_0 h' (r_sl h r) (ac_Y h (q_ac h (h_r h 16 0) r))
section
variable {ρ : Nat → Nat} {h : MH} {Q : Option Value → MH → Prop}
theorem wp_0 (n15 : c_PT 15 ρ h) : wp_E h h := ⟨n15.2.1, fun _ => rfl, fun r hr => (n15.2.2.1 r hr).2⟩
theorem wp_15 {ρ2 : Nat → Nat} {W : List (Nat × Nat)} {h2 : MH} (ht : TH c_sp ρ h) (n15 : c_PT 15 ρ h) (f : FQ ρ ρ2 W h h2) (hn : d_no (c_dep 12) W = true) (E : wp_E h h2) : c_PT 15 ρ2 h2 := by
  obtain ⟨h16, k1, k2, k3, k4⟩ := n15
  have fN := nw_ob ht h16
  have bd := td_bdN ht fN
  have l16 := (ht.2 16 (by rw [h16]; decide)).1
  have N2 : h_r h2 16 0 = h_r h 16 0 := (fq_f f (d_noS (D' := [(6, 0)]) hn (by decide)) (List.mem_singleton.mpr rfl) (by decide) h16 l16).2
  have pcN := pc_same (td_frN ht f (d_noS hn (by decide)) fN)
  refine ⟨(f.2.1 16 (by rw [h16]; decide)).trans h16, E.1, fun r hr => ?_, by rw [N2]; exact av_pc pcN bd k3, fun k hk h0 => ?_⟩
  · rw [N2, pcN.1 5 (by decide) (by decide)] at hr
    have r4 : r < 4 := by
      have := bd.2.1
      omega
    obtain ⟨y1, y2⟩ := k2 r hr
    obtain ⟨e1, e2, e3⟩ := pcN.2.2 r r4
    rw [E.2.1, N2, (ac_eqY e1 (bd.2.2 r r4) e2 e3).1]
    exact ⟨y1, E.2.2 r hr⟩
  · have ei := im_eq ht f h16 (d_noS (D' := [(6, 1), (8, 1001), (8, 1002)]) hn (by decide)) (List.mem_of_getElem? (i := 0) rfl) (List.mem_of_getElem? (i := 1) rfl) (List.mem_of_getElem? (i := 2) rfl) k
    rw [ei] at h0 ⊢
    have oI := im_ob ht h16 k hk h0
    exact av_pc (pc_same (td_frI ht f (d_noS hn (by decide)) oI)) (td_bdI ht oI) (k4 k hk h0)
theorem own_E {r : Nat} {h' : MH} (ht : TH c_sp ρ h) (n15 : c_PT 15 ρ h) (hr : (r : Int) < q_fd h (h_r h 16 0) 5) (ok : pa_ok h (r_sl h r)) (F : FW (h_r h (r_sl h r) 0) (bf_Y h (r_sl h r)) h h') (I : ∃ l, cs_of h' (z_i h') (h_r h (r_sl h r) 0) (ps_le (ry_s (ac_Y h (q_ac h (h_r h 16 0) r))) l)) (Z : ∀ q, q ≠ 13 → z_i h' (r_sl h r) q = z_i h (r_sl h r) q) (K : ∀ j, j < ps_n (ry_s (ac_Y h (q_ac h (h_r h 16 0) r))) → h_l h' (h_r h' (h_r h (r_sl h r) 0) 1) j = h_l h (h_r h (h_r h (r_sl h r) 0) 1) j) : wp_E h h' := by
  obtain ⟨h16, k1, k2, -⟩ := id n15
  obtain ⟨y1, y2⟩ := k2 r hr
  have b5 := (td_bdN ht (nw_ob ht h16)).2.1
  have r4 : r < 4 := by omega
  have hp := sl_ob ht h16 r4 y1
  have r9 := (th_rf ht (R := 29) (by decide) rfl hp (k := 9) (R2 := 36) rfl (fun z => by cases z)).2
  have r10 := (th_rf ht (R := 29) (by decide) rfl hp (k := 10) (R2 := 37) rfl (fun z => by cases z)).2
  obtain ⟨P1, P2, P3⟩ := run_pl ht h16 k1 r4 y1 (F.mono (Y' := run_Z h (r_sl h r)) (fun a z => by
    rcases z with (z | z | ⟨i, hi, z⟩) | z | z
    · exact Or.inl (Or.inl z)
    · exact Or.inl (Or.inr (Or.inl z))
    · exact Or.inl (Or.inr (Or.inr (Or.inl ⟨i, by omega, z⟩)))
    · exact Or.inr (Or.inl z)
    · exact Or.inr (Or.inr z)))
  refine ⟨P1, P2, fun s hs => ?_⟩
  by_cases e : s = r
  · subst e
    exact bk_own ok (tb_okT ht hp (Or.inl r9)) (tb_okT ht hp (Or.inr r10)) F I Z K y2
  · exact P3 s (by omega) e (k2 s hs).1 _ (k2 s hs).2
theorem ry_15 (ht : TH c_sp ρ h) (n15 : c_PT 15 ρ h) (r : Nat) (hr : (r : Int) < q_fd h (h_r h 16 0) 5) : ∃ k, k ≤ 40 ∧ ry_ok (ac_Y h (q_ac h (h_r h 16 0) r)) k := by
  have fN := nw_ob ht n15.1
  have b5 := (td_bdN ht fN).2.1
  have oc := ((td_obN ht fN).2.2 r (by omega)).1
  have c := (t_spec ht (by decide) (rfl : c_sp[12]? = some _) oc).2.2.2 2 (.inl (0, 40)) rfl (fun z => by cases z)
  have c0 : 0 ≤ q_fd h (q_ac h (h_r h 16 0) r) 2 ∧ q_fd h (q_ac h (h_r h 16 0) r) 2 ≤ 40 := c
  have av := n15.2.2.2.1 r hr
  obtain ⟨k, k1, k2, -⟩ := ry_okR (ac_N h (q_ac h (h_r h 16 0) r)) (fun k hk => av k (by unfold ac_N at hk; omega))
  have n40 : ac_N h (q_ac h (h_r h 16 0) r) ≤ 40 := by
    unfold ac_N
    omega
  exact ⟨k, by omega, k2⟩
end
-- arguments: the sixth; longs
theorem hL_arg6 {pc s : Nat} {n : Int} {x : Int32} {lv : List (Nat × Value)} {st : List Value} {h : MH} {Q : Option Value → MH → Prop} {ρ : Nat → Nat} (a1 : m_at 0 pc = some (.aload_n 0, 1)) (a2 : m_at 0 (pc + 1) = some (.iload_n 3, 1)) (a3 : m_at 0 (pc + 2) = some (.bipush n, 2)) (a4 : m_at 0 (pc + 4) = some (.iadd, 1)) (a5 : m_at 0 (pc + 5) = some (.iaload, 1)) (hn : (Int8.ofInt n).toInt32.toInt = n) (n1 : 1 ≤ n) (n6 : n ≤ 6) (e0 : m_lk lv 0 = some (.ref s)) (e3 : m_lk lv 3 = some (.int x)) (ht : TH c_sp ρ h) (hs : ρ s = 5) (x0 : 0 ≤ x.toInt) (x1 : x.toInt + 7 ≤ ((h_k h s).2 : Int)) (g : HJ 0 (pc + 6) lv (.int (h_i h s (x.toInt + n).toNat) :: st) h Q) : HJ 0 pc lv st h Q := by
  have c := t_spec ht (by decide) (rfl : c_sp[5]? = some _) hs
  have l9 : ((h_k h s).2 : Int) ≤ 448 := by
    have z : (h_k h s).2 ≤ 448 := c.2.1.2
    omega
  refine hI_al (k := 0) a1 e0 rfl ?_
  refine hI_il (k := 3) a2 e3 rfl ?_
  refine hM_bp a3 hn rfl (fun y q => ?_)
  refine hM_add a4 rfl q (by omega) (by omega) rfl (fun w qw => ?_)
  refine hI_ia a5 c.1 (by omega) (by omega) rfl ?_
  rw [qw]
  exact g
def jh (x : Int32) : Int64 := (Int32.ofInt x.toInt).toInt64 <<< ((Int32.ofInt 32).toInt64 &&& 63)
def jc : Int64 := (m_jc 0 84).getD 0
def jz (x y : Int32) : Int64 := jh x ||| ((Int32.ofInt y.toInt).toInt64 &&& jc)
theorem jc_E : m_jc 0 84 = some jc := by decide +kernel
theorem hL_hi {pc : Nat} {x : Int32} {lv : List (Nat × Value)} {st : List Value} {h : MH} {Q : Option Value → MH → Prop} (a1 : m_at 0 pc = some (.i2l, 1)) (a2 : m_at 0 (pc + 1) = some (.bipush 32, 2)) (a3 : m_at 0 (pc + 3) = some (.lshl, 1)) (g : HJ 0 (pc + 4) lv (.long (jh x) :: st) h Q) : HJ 0 pc lv (.int x :: st) h Q := by
  refine hM_i2l a1 rfl rfl ?_
  refine hM_bp a2 (by decide) rfl (fun y q => ?_)
  exact hM_lshl a3 q rfl g
theorem hL_lo {pc : Nat} {x : Int64} {y : Int32} {lv : List (Nat × Value)} {st : List Value} {h : MH} {Q : Option Value → MH → Prop} (a1 : m_at 0 pc = some (.i2l, 1)) (a2 : m_at 0 (pc + 1) = some (.ldc2_w 84, 3)) (a3 : m_at 0 (pc + 4) = some (.land, 1)) (a4 : m_at 0 (pc + 5) = some (.lor, 1)) (g : HJ 0 (pc + 6) lv (.long (x ||| ((Int32.ofInt y.toInt).toInt64 &&& jc)) :: st) h Q) : HJ 0 pc lv (.int y :: .long x :: st) h Q := by
  refine hM_i2l a1 rfl rfl ?_
  refine hM_jc a2 jc_E rfl ?_
  refine hI_land a3 rfl ?_
  exact hI_lor a4 rfl g
theorem bz_b (x : Int32) : 0 ≤ (bz x).toInt ∧ (bz x).toInt ≤ 1 := by
  rcases bz_01 x with z | z <;> omega
-- what would answers
def wo_in (row : Prop) (w a b : Int) : Prop := row ∧ (1 ≤ w ∧ w ≤ 5) ∧ (w = 1 ∨ w = 5 → 0 ≤ a ∧ a ≤ 99) ∧ (w = 4 → 0 ≤ b ∧ b ≤ 99)
def wo_q (Y : RYt) (row : Prop) (w v a b f z : Int) : Prop := (¬ wo_in row w a b ∧ z = -1) ∨ (wo_in row w a b ∧ wm_q (ry_z Y) w v a b f z)
theorem wo_n {Y : RYt} {row : Prop} {w v a b f z : Int} (h : ¬ wo_in row w a b) (q : z = -1) : wo_q Y row w v a b f z := Or.inl ⟨h, q⟩
theorem wo_av {row : Prop} {w a b : Int} (h : wo_in row w a b) : av_1 w a b := ⟨fun c => h.2.2.1 (Or.inl c), h.2.2.2⟩
theorem wo_eq {Y : RYt} {row row' : Prop} {w v a b f y z : Int} (er : row ↔ row') (A : wo_q Y row w v a b f z) (B : wo_q Y row' w v a b f y) : y = z := by
  rcases A with ⟨a1, a2⟩ | ⟨a1, a2⟩
  · rcases B with ⟨-, b2⟩ | ⟨b1, -⟩
    · rw [a2, b2]
    · exact absurd ⟨er.mpr b1.1, b1.2⟩ a1
  · rcases B with ⟨b1, -⟩ | ⟨-, b2⟩
    · exact absurd ⟨er.mp a1.1, a1.2⟩ b1
    · rcases a2 with ⟨c1, c2⟩ | ⟨X, c1, c2⟩ <;> rcases b2 with ⟨d1, d2⟩ | ⟨X', d1, d2⟩
      · rw [c2, d2]
      · rw [c1] at d1
        cases d1
      · rw [c1] at d1
        cases d1
      · rw [c1] at d1
        cases d1
        rw [c2, d2]
-- what fold asks of versions: nothing changes
section
variable {lv : List (Nat × Value)} {Q : Option Value → MH → Prop} {h0 h : MH} {H : Nat → Nat → Int}
theorem r_ha0 {pa : Nat} (M : RX h0 h H) (e0 : m_lk lv 0 = some (.ref pa)) {lx1 : Int64} (e1 : m_lk lv 1 = some (.long lx1)) (s0 : 0 ≤ H pa 11) (s1 : H pa 11 ≤ 40) (hk0 : (h_k h0 pa).1 = 4)
    (g0 : ∀ x3 : Int32, x3.toInt = (H pa 11) + 1 → HJ 52 0 (lv_args 0 [.int x3]) [] h (fun v h' => HJ 150 10 lv (v.toList ++ [.long lx1]) h' Q))
    : HJ 150 0 lv [] h Q := by
  refine hI_ll (k := 1) rfl e1 rfl ?_ -- 0
  refine hI_al (k := 0) rfl e0 rfl ?_ -- 1
  refine hR_gi (c := 3) (k := 11) M hk0 rfl rfl rfl rfl (fun x1 q1 => ?_) -- 2
  have gb1 : -2147483648 ≤ H pa 11 ∧ H pa 11 ≤ 2147483647 := by rw [← q1]; exact g_iT _
  refine hM_ic (n := 1) rfl (by decide) rfl (fun x2 q2 => ?_) -- 5
  refine hM_add rfl q1 q2 (by omega) (by omega) rfl (fun x3 q3 => ?_) -- 6
  refine hM_is0 (as := [.int x3]) (r := [.long lx1]) rfl rfl (by decide +kernel) rfl rfl rfl rfl rfl ?_ -- 7
  exact g0 x3 q3
theorem r_ha10 (M : RX h0 h H) {sx0 : Int64} {sx1 : Int64} 
    (g0 : ∀ x2 : Int32, x2.toInt = 0 → (lg_cmp (sx0 &&& (-sx1)) (Int64.ofNat (0 : Fin 2).val)).toInt ≠ 0 → Q (some (.int x2)) h)
    (g1 : ∀ x3 : Int32, x3.toInt = 1 → (lg_cmp (sx0 &&& (-sx1)) (Int64.ofNat (0 : Fin 2).val)).toInt = 0 → Q (some (.int x3)) h)
    : HJ 150 10 lv [.long sx1, .long sx0] h Q := by
  refine hI_lneg rfl rfl ?_ -- 10
  refine hI_land rfl rfl ?_ -- 11
  refine hI_lc (n := 0) rfl rfl ?_ -- 12
  refine hM_lcmp rfl rfl (fun x1 q1 => ?_) -- 13
  refine hM_zne (off := 7) (t := 21) rfl q1 (by decide) rfl (fun c14 => ?_) (fun c14 => ?_) -- 14
  · refine hM_ic (n := 0) rfl (by decide) rfl (fun x2 q2 => ?_) -- 21
    refine hM_rb rfl rfl q2 (by omega) (by omega) ?_ -- 22
    exact g0 x2 q2 c14
  · refine hM_ic (n := 1) rfl (by decide) rfl (fun x3 q3 => ?_) -- 17
    refine hI_go (pc' := 22) (off := 4) rfl (by decide) ?_ -- 18
    refine hM_rb rfl rfl q3 (by omega) (by omega) ?_ -- 22
    exact g1 x3 q3 c14
theorem r_lb0 (M : RX h0 h H) {lx0 : Int64} (e0 : m_lk lv 0 = some (.long lx0)) 
    (g0 : ∀ x15 : Int32, ∀ z15 : Int, x15.toInt = z15 → -2147483648 ≤ z15 → z15 ≤ 2147483647 → ∀ lv12 : List (Nat × Value), Q (some (.int x15)) h)
    : HJ 155 0 lv [] h Q := by
  refine hI_ll (k := 0) rfl e0 rfl ?_ -- 0
  refine hI_ll (k := 0) rfl e0 rfl ?_ -- 1
  refine hM_ic (n := 1) rfl (by decide) rfl (fun x1 q1 => ?_) -- 2
  refine hM_lushr rfl q1 rfl ?_ -- 3
  refine hM_jc (x := 6148914691236517205) rfl rfl rfl ?_ -- 4
  refine hI_land rfl rfl ?_ -- 7
  refine hI_lsub rfl rfl ?_ -- 8
  refine hM_sl (k := 0) rfl (by decide +kernel) rfl (fun lv2 e2_0 u2 => ?_) -- 9
  refine hI_ll (k := 0) rfl e2_0 rfl ?_ -- 10
  refine hM_jc (x := 3689348814741910323) rfl rfl rfl ?_ -- 11
  refine hI_land rfl rfl ?_ -- 14
  refine hI_ll (k := 0) rfl e2_0 rfl ?_ -- 15
  refine hM_ic (n := 2) rfl (by decide) rfl (fun x3 q3 => ?_) -- 16
  refine hM_lushr rfl q3 rfl ?_ -- 17
  refine hM_jc (x := 3689348814741910323) rfl rfl rfl ?_ -- 18
  refine hI_land rfl rfl ?_ -- 21
  refine hI_ladd rfl rfl ?_ -- 22
  refine hM_sl (k := 0) rfl (by decide +kernel) rfl (fun lv4 e4_0 u4 => ?_) -- 23
  refine hI_ll (k := 0) rfl e4_0 rfl ?_ -- 24
  refine hI_ll (k := 0) rfl e4_0 rfl ?_ -- 25
  refine hM_ic (n := 4) rfl (by decide) rfl (fun x5 q5 => ?_) -- 26
  refine hM_lushr rfl q5 rfl ?_ -- 27
  refine hI_ladd rfl rfl ?_ -- 28
  refine hM_jc (x := 1085102592571150095) rfl rfl rfl ?_ -- 29
  refine hI_land rfl rfl ?_ -- 32
  refine hM_sl (k := 0) rfl (by decide +kernel) rfl (fun lv6 e6_0 u6 => ?_) -- 33
  refine hI_ll (k := 0) rfl e6_0 rfl ?_ -- 34
  refine hI_ll (k := 0) rfl e6_0 rfl ?_ -- 35
  refine hM_bp (n := 8) rfl (by decide) rfl (fun x7 q7 => ?_) -- 36
  refine hM_lushr rfl q7 rfl ?_ -- 38
  refine hI_ladd rfl rfl ?_ -- 39
  refine hM_sl (k := 0) rfl (by decide +kernel) rfl (fun lv8 e8_0 u8 => ?_) -- 40
  refine hI_ll (k := 0) rfl e8_0 rfl ?_ -- 41
  refine hI_ll (k := 0) rfl e8_0 rfl ?_ -- 42
  refine hM_bp (n := 16) rfl (by decide) rfl (fun x9 q9 => ?_) -- 43
  refine hM_lushr rfl q9 rfl ?_ -- 45
  refine hI_ladd rfl rfl ?_ -- 46
  refine hM_sl (k := 0) rfl (by decide +kernel) rfl (fun lv10 e10_0 u10 => ?_) -- 47
  refine hI_ll (k := 0) rfl e10_0 rfl ?_ -- 48
  refine hI_ll (k := 0) rfl e10_0 rfl ?_ -- 49
  refine hM_bp (n := 32) rfl (by decide) rfl (fun x11 q11 => ?_) -- 50
  refine hM_lushr rfl q11 rfl ?_ -- 52
  refine hI_ladd rfl rfl ?_ -- 53
  refine hM_sl (k := 0) rfl (by decide +kernel) rfl (fun lv12 e12_0 u12 => ?_) -- 54
  refine hI_ll (k := 0) rfl e12_0 rfl ?_ -- 55
  refine hM_l2i rfl rfl (fun x13 q13 => ?_) -- 56
  refine hM_bp (n := 127) rfl (by decide) rfl (fun x14 q14 => ?_) -- 57
  refine hM_iand rfl rfl (fun x15 z15 q15 a15 b15 => ?_) -- 59
  refine hI_ri rfl rfl ?_ -- 60
  exact g0 x15 z15 q15 a15 b15 lv12
theorem r_sg0 {pa : Nat} (M : RX h0 h H) (e0 : m_lk lv 0 = some (.ref pa)) {lx1 : Int64} (e1 : m_lk lv 1 = some (.long lx1)) 
    (g0 : ∀ x1 : Int32, x1.toInt = 0 → ∀ x3 : Int32, x3.toInt = 0 → ∀ lv4 : List (Nat × Value), m_lk lv4 0 = some (.ref pa) → m_lk lv4 1 = some (.long lx1) → m_lk lv4 3 = some (.int x1) → m_lk lv4 4 = some (.int x3) → HJ 171 5 lv4 [] h Q)
    : HJ 171 0 lv [] h Q := by
  refine hM_ic (n := 0) rfl (by decide) rfl (fun x1 q1 => ?_) -- 0
  refine hM_si (k := 3) rfl (by decide +kernel) rfl (fun lv2 e2_3 u2 => ?_) -- 1
  have e2_0 := u2 0 _ (by decide) (Or.inl rfl) e0
  have e2_1 := u2 1 _ (by decide) (Or.inr (by decide)) e1
  refine hM_ic (n := 0) rfl (by decide) rfl (fun x3 q3 => ?_) -- 2
  refine hM_si2 (k := 4) rfl (by decide +kernel) rfl (fun lv4 e4_4 u4 => ?_) -- 3
  have e4_0 := u4 0 _ (by decide) (Or.inl rfl) e2_0
  have e4_1 := u4 1 _ (by decide) (Or.inr (by decide)) e2_1
  have e4_3 := u4 3 _ (by decide) (Or.inl rfl) e2_3
  exact g0 x1 q1 x3 q3 lv4 e4_0 e4_1 e4_3 e4_4
theorem r_sg5 {pa : Nat} {s v : Int} (M : RX h0 h H) (e0 : m_lk lv 0 = some (.ref pa)) {lx1 : Int64} (e1 : m_lk lv 1 = some (.long lx1)) {lx3 : Int32} (e3 : m_lk lv 3 = some (.int lx3)) (lq3 : lx3.toInt = s) {lx4 : Int32} (e4 : m_lk lv 4 = some (.int lx4)) (lq4 : lx4.toInt = v)  (hk0 : (h_k h0 pa).1 = 4)
    (g0 : v > H pa 11 → Q (some (.int lx3)) h)
    (g1 : v ≤ H pa 11 → HJ 52 0 (lv_args 0 [.int lx4]) [] h (fun v h' => HJ 171 20 lv (v.toList ++ [.long lx1]) h' Q))
    : HJ 171 5 lv [] h Q := by
  refine hI_il2 (k := 4) rfl e4 rfl ?_ -- 5
  refine hI_al (k := 0) rfl e0 rfl ?_ -- 7
  refine hR_gi (c := 3) (k := 11) M hk0 rfl rfl rfl rfl (fun x1 q1 => ?_) -- 8
  have gb1 : -2147483648 ≤ H pa 11 ∧ H pa 11 ≤ 2147483647 := by rw [← q1]; exact g_iT _
  refine hM_cgt (off := 31) (t := 42) rfl lq4 q1 (by decide) rfl (fun c11 => ?_) (fun c11 => ?_) -- 11
  · refine hI_il (k := 3) rfl e3 rfl ?_ -- 42
    refine hI_ri rfl rfl ?_ -- 43
    exact g0 c11
  · refine hI_ll (k := 1) rfl e1 rfl ?_ -- 14
    refine hI_il2 (k := 4) rfl e4 rfl ?_ -- 15
    refine hM_is0 (as := [.int lx4]) (r := [.long lx1]) rfl rfl (by decide +kernel) rfl rfl rfl rfl rfl ?_ -- 17
    exact g1 c11
theorem r_sg20 {pa : Nat} {s v : Int} (M : RX h0 h H) (e0 : m_lk lv 0 = some (.ref pa)) {lx1 : Int64} (e1 : m_lk lv 1 = some (.long lx1)) {lx3 : Int32} (e3 : m_lk lv 3 = some (.int lx3)) (lq3 : lx3.toInt = s) {lx4 : Int32} (e4 : m_lk lv 4 = some (.int lx4)) (lq4 : lx4.toInt = v) {sx0 : Int64} {sx1 : Int64} (v0 : 0 ≤ v) (v1 : v ≤ 40) (hk0 : (h_k h0 pa).1 = 4) (ha0 : (h_k h0 (h_r h0 pa 3)).1 = 20) (hl0 : 41 ≤ ((h_k h0 (h_r h0 pa 3)).2 : Int))
    (g0 : ∀ x2 : Int32, x2.toInt = v + 1 → ∀ lv2 : List (Nat × Value), m_lk lv2 0 = some (.ref pa) → m_lk lv2 1 = some (.long lx1) → m_lk lv2 3 = some (.int lx3) → m_lk lv2 4 = some (.int x2) → (lg_cmp (sx0 &&& sx1) (Int64.ofNat (0 : Fin 2).val)).toInt = 0 → HJ 171 5 lv2 [] h Q)
    (g1 : ∀ x4 : Int32, ∀ z4 : Int, x4.toInt = z4 → -2147483648 ≤ z4 → z4 ≤ 2147483647 → ∀ x6 : Int32, x6.toInt = v + 1 → ∀ lv6 : List (Nat × Value), m_lk lv6 0 = some (.ref pa) → m_lk lv6 1 = some (.long lx1) → m_lk lv6 3 = some (.int x4) → m_lk lv6 4 = some (.int x6) → (lg_cmp (sx0 &&& sx1) (Int64.ofNat (0 : Fin 2).val)).toInt ≠ 0 → HJ 171 5 lv6 [] h Q)
    : HJ 171 20 lv [.long sx1, .long sx0] h Q := by
  refine hI_land rfl rfl ?_ -- 20
  refine hI_lc (n := 0) rfl rfl ?_ -- 21
  refine hM_lcmp rfl rfl (fun x1 q1 => ?_) -- 22
  refine hM_zeq (off := 13) (t := 36) rfl q1 (by decide) rfl (fun c23 => ?_) (fun c23 => ?_) -- 23
  · refine hM_inc (k := 4) (z := 1) rfl e4 lq4 (by decide) (by omega) (by omega) (by decide +kernel) rfl (fun lv2 x2 q2 e2_4 u2 => ?_) -- 36
    have e2_0 := u2 0 _ (by decide) (Or.inl rfl) e0
    have e2_1 := u2 1 _ (by decide) (Or.inr (by decide)) e1
    have e2_3 := u2 3 _ (by decide) (Or.inl rfl) e3
    refine hI_go (pc' := 5) (off := (-34)) rfl (by decide) ?_ -- 39
    exact g0 x2 q2 lv2 e2_0 e2_1 e2_3 e2_4 c23
  · refine hI_il (k := 3) rfl e3 rfl ?_ -- 26
    refine hI_al (k := 0) rfl e0 rfl ?_ -- 27
    refine hR_gr (c := 3) (k := 3) M hk0 rfl rfl rfl rfl ?_ -- 28
    refine hI_il2 (k := 4) rfl e4 rfl ?_ -- 31
    refine hR_ia M ha0 lq4 (by omega) (by omega) rfl rfl (fun x3 q3 => ?_) -- 33
    have gb3 : -2147483648 ≤ H (h_r h0 pa 3) (v).toNat ∧ H (h_r h0 pa 3) (v).toNat ≤ 2147483647 := by rw [← q3]; exact g_iT _
    refine hM_addw rfl rfl (fun x4 z4 q4 a4 b4 => ?_) -- 34
    refine hM_si (k := 3) rfl (by decide +kernel) rfl (fun lv5 e5_3 u5 => ?_) -- 35
    have e5_0 := u5 0 _ (by decide) (Or.inl rfl) e0
    have e5_1 := u5 1 _ (by decide) (Or.inr (by decide)) e1
    have e5_4 := u5 4 _ (by decide) (Or.inl rfl) e4
    refine hM_inc (k := 4) (z := 1) rfl e5_4 lq4 (by decide) (by omega) (by omega) (by decide +kernel) rfl (fun lv6 x6 q6 e6_4 u6 => ?_) -- 36
    have e6_0 := u6 0 _ (by decide) (Or.inl rfl) e5_0
    have e6_1 := u6 1 _ (by decide) (Or.inr (by decide)) e5_1
    have e6_3 := u6 3 _ (by decide) (Or.inl rfl) e5_3
    refine hI_go (pc' := 5) (off := (-34)) rfl (by decide) ?_ -- 39
    exact g1 x4 z4 q4 a4 b4 x6 q6 lv6 e6_0 e6_1 e6_3 e6_4 c23
theorem k_ha {pa : Nat} {x : Int64} (M : RX h0 h H) (kp : (h_k h0 pa).1 = 4) (s0 : 0 ≤ H pa 11) (s1 : H pa 11 ≤ 40) (g : ∀ z : Int32, Q (some (.int z)) h) : HJ 150 0 (lv_args 0 [.ref pa, .long x]) [] h Q := by
  refine r_ha0 M rfl rfl s0 s1 kp (fun x3 q3 => ?_)
  refine k_bit M q3 ?_
  exact r_ha10 M (fun z _ _ => g z) (fun z _ _ => g z)
theorem l_sg {pa : Nat} {x : Int64} (M : RX h0 h H) (kp : (h_k h0 pa).1 = 4) (s1 : H pa 11 ≤ 40) (ks : (h_k h0 (h_r h0 pa 3)).1 = 20) (ls : 41 ≤ ((h_k h0 (h_r h0 pa 3)).2 : Int)) (g : ∀ z : Int32, Q (some (.int z)) h) : ∀ (d : Nat) (lv : List (Nat × Value)) (xs xv : Int32) (v : Int), (41 - v).toNat ≤ d → xv.toInt = v → 0 ≤ v → m_lk lv 0 = some (.ref pa) → m_lk lv 1 = some (.long x) → m_lk lv 3 = some (.int xs) → m_lk lv 4 = some (.int xv) → HJ 171 5 lv [] h Q := by
  intro d
  induction d with
  | zero =>
    intro lv xs xv v hd qv v0 e0 e1 e3 e4
    exact r_sg5 M e0 e1 e3 rfl e4 qv kp (fun _ => g xs) (fun c => absurd c (by omega))
  | succ d ih =>
    intro lv xs xv v hd qv v0 e0 e1 e3 e4
    refine r_sg5 M e0 e1 e3 rfl e4 qv kp (fun _ => g xs) (fun c => ?_)
    refine k_bit M qv ?_
    show HJ 171 20 lv [.long (bt v), .long x] h Q
    exact r_sg20 M e0 e1 e3 rfl e4 qv v0 (by omega) kp ks ls (fun x2 q2 lv2 a0 a1 a3 a4 _ => ih lv2 xs x2 (v + 1) (by omega) q2 (by omega) a0 a1 a3 a4) (fun x4 z4 q4 _ _ x6 q6 lv6 a0 a1 a3 a4 _ => ih lv6 x4 x6 (v + 1) (by omega) q6 (by omega) a0 a1 a3 a4)
theorem k_sg {pa : Nat} {x : Int64} (M : RX h0 h H) (kp : (h_k h0 pa).1 = 4) (s1 : H pa 11 ≤ 40) (ks : (h_k h0 (h_r h0 pa 3)).1 = 20) (ls : 41 ≤ ((h_k h0 (h_r h0 pa 3)).2 : Int)) (g : ∀ z : Int32, Q (some (.int z)) h) : HJ 171 0 (lv_args 0 [.ref pa, .long x]) [] h Q :=
  r_sg0 M rfl rfl (fun x1 q1 x3 q3 lv4 a0 a1 a3 a4 => l_sg M kp s1 ks ls g 41 lv4 x1 x3 0 (by decide) q3 (by decide) a0 a1 a3 a4)
theorem k_lb {x : Int64} (g : ∀ z : Int32, Q (some (.int z)) h) : HJ 155 0 (lv_args 0 [.long x]) [] h Q := r_lb0 (RX.start h) rfl (fun z _ _ _ _ _ => g z)
theorem r_wd12 {pa : Nat} {r v w a b f : Int} (M : RX h0 h H) {lx1 : Int32} (e1 : m_lk lv 1 = some (.int lx1)) (lq1 : lx1.toInt = r) {lx2 : Int32} (e2 : m_lk lv 2 = some (.int lx2)) (lq2 : lx2.toInt = v) {lx3 : Int32} (e3 : m_lk lv 3 = some (.int lx3)) (lq3 : lx3.toInt = w) {lx4 : Int32} (e4 : m_lk lv 4 = some (.int lx4)) (lq4 : lx4.toInt = a) {lx5 : Int32} (e5 : m_lk lv 5 = some (.int lx5)) (lq5 : lx5.toInt = b) {lx6 : Int32} (e6 : m_lk lv 6 = some (.int lx6)) (lq6 : lx6.toInt = f) (e7 : m_lk lv 7 = some (.ref pa))  (hs0 : 16 ≤ pa) (hk0 : (h_k h0 pa).1 = 4)
    (g0 : ∀ x2 : Int32, x2.toInt = (-1) → w < 1 → Q (some (.int x2)) h)
    (g1 : ∀ x9 : Int32, x9.toInt = (-1) → ∀ lv8 : List (Nat × Value), w ≥ 1 → w ≤ 5 → w = 1 → w ≠ 4 → a < 0 → Q (some (.int x9)) h)
    (g2 : ∀ x5 : Int32, x5.toInt = 1 → ∀ lv8 : List (Nat × Value), m_lk lv8 1 = some (.int lx1) → m_lk lv8 2 = some (.int lx2) → m_lk lv8 3 = some (.int lx3) → m_lk lv8 4 = some (.int lx4) → m_lk lv8 5 = some (.int lx5) → m_lk lv8 6 = some (.int lx6) → m_lk lv8 7 = some (.ref pa) → m_lk lv8 8 = some (.int x5) → m_lk lv8 9 = some (.int lx4) → w ≥ 1 → w ≤ 5 → w = 1 → w ≠ 4 → a ≥ 0 → a ≤ 99 → HJ 169 0 (lv_args 0 [.ref pa, .int lx3, .int lx2, .int lx4, .int lx5, .int lx6]) [] h (fun v h' => HJ 168 92 lv8 (v.toList ++ []) h' Q))
    (g3 : ∀ x11 : Int32, x11.toInt = (-1) → ∀ lv8 : List (Nat × Value), w ≥ 1 → w ≤ 5 → w = 1 → w ≠ 4 → a ≥ 0 → a > 99 → Q (some (.int x11)) h)
    (g4 : ∀ x13 : Int32, x13.toInt = (-1) → ∀ lv12 : List (Nat × Value), w ≥ 1 → w ≤ 5 → w = 1 → w = 4 → b < 0 → Q (some (.int x13)) h)
    (g5 : ∀ x5 : Int32, x5.toInt = 1 → ∀ lv12 : List (Nat × Value), m_lk lv12 1 = some (.int lx1) → m_lk lv12 2 = some (.int lx2) → m_lk lv12 3 = some (.int lx3) → m_lk lv12 4 = some (.int lx4) → m_lk lv12 5 = some (.int lx5) → m_lk lv12 6 = some (.int lx6) → m_lk lv12 7 = some (.ref pa) → m_lk lv12 8 = some (.int x5) → m_lk lv12 9 = some (.int lx5) → w ≥ 1 → w ≤ 5 → w = 1 → w = 4 → b ≥ 0 → b ≤ 99 → HJ 169 0 (lv_args 0 [.ref pa, .int lx3, .int lx2, .int lx4, .int lx5, .int lx6]) [] h (fun v h' => HJ 168 92 lv12 (v.toList ++ []) h' Q))
    (g6 : ∀ x15 : Int32, x15.toInt = (-1) → ∀ lv12 : List (Nat × Value), w ≥ 1 → w ≤ 5 → w = 1 → w = 4 → b ≥ 0 → b > 99 → Q (some (.int x15)) h)
    (g7 : ∀ x21 : Int32, x21.toInt = (-1) → ∀ lv20 : List (Nat × Value), w ≥ 1 → w ≤ 5 → w ≠ 1 → w = 4 → b < 0 → Q (some (.int x21)) h)
    (g8 : ∀ x17 : Int32, x17.toInt = 1 → ∀ lv20 : List (Nat × Value), m_lk lv20 1 = some (.int lx1) → m_lk lv20 2 = some (.int lx2) → m_lk lv20 3 = some (.int lx3) → m_lk lv20 4 = some (.int lx4) → m_lk lv20 5 = some (.int lx5) → m_lk lv20 6 = some (.int lx6) → m_lk lv20 7 = some (.ref pa) → m_lk lv20 8 = some (.int x17) → m_lk lv20 9 = some (.int lx5) → w ≥ 1 → w ≤ 5 → w ≠ 1 → w = 4 → b ≥ 0 → b ≤ 99 → HJ 169 0 (lv_args 0 [.ref pa, .int lx3, .int lx2, .int lx4, .int lx5, .int lx6]) [] h (fun v h' => HJ 168 92 lv20 (v.toList ++ []) h' Q))
    (g9 : ∀ x23 : Int32, x23.toInt = (-1) → ∀ lv20 : List (Nat × Value), w ≥ 1 → w ≤ 5 → w ≠ 1 → w = 4 → b ≥ 0 → b > 99 → Q (some (.int x23)) h)
    (g10 : ∀ x25 : Int32, x25.toInt = 0 → ∀ lv28 : List (Nat × Value), m_lk lv28 1 = some (.int lx1) → m_lk lv28 2 = some (.int lx2) → m_lk lv28 3 = some (.int lx3) → m_lk lv28 4 = some (.int lx4) → m_lk lv28 5 = some (.int lx5) → m_lk lv28 6 = some (.int lx6) → m_lk lv28 7 = some (.ref pa) → m_lk lv28 8 = some (.int x25) → m_lk lv28 9 = some (.int lx4) → w ≥ 1 → w ≤ 5 → w ≠ 1 → w ≠ 4 → w ≠ 5 → HJ 169 0 (lv_args 0 [.ref pa, .int lx3, .int lx2, .int lx4, .int lx5, .int lx6]) [] h (fun v h' => HJ 168 92 lv28 (v.toList ++ []) h' Q))
    (g11 : ∀ x33 : Int32, x33.toInt = (-1) → ∀ lv32 : List (Nat × Value), w ≥ 1 → w ≤ 5 → w ≠ 1 → w ≠ 4 → w = 5 → a < 0 → Q (some (.int x33)) h)
    (g12 : ∀ x29 : Int32, x29.toInt = 1 → ∀ lv32 : List (Nat × Value), m_lk lv32 1 = some (.int lx1) → m_lk lv32 2 = some (.int lx2) → m_lk lv32 3 = some (.int lx3) → m_lk lv32 4 = some (.int lx4) → m_lk lv32 5 = some (.int lx5) → m_lk lv32 6 = some (.int lx6) → m_lk lv32 7 = some (.ref pa) → m_lk lv32 8 = some (.int x29) → m_lk lv32 9 = some (.int lx4) → w ≥ 1 → w ≤ 5 → w ≠ 1 → w ≠ 4 → w = 5 → a ≥ 0 → a ≤ 99 → HJ 169 0 (lv_args 0 [.ref pa, .int lx3, .int lx2, .int lx4, .int lx5, .int lx6]) [] h (fun v h' => HJ 168 92 lv32 (v.toList ++ []) h' Q))
    (g13 : ∀ x35 : Int32, x35.toInt = (-1) → ∀ lv32 : List (Nat × Value), w ≥ 1 → w ≤ 5 → w ≠ 1 → w ≠ 4 → w = 5 → a ≥ 0 → a > 99 → Q (some (.int x35)) h)
    (g14 : ∀ x36 : Int32, x36.toInt = (-1) → w ≥ 1 → w > 5 → Q (some (.int x36)) h)
    : HJ 168 12 lv [] h Q := by
  refine hI_il (k := 3) rfl e3 rfl ?_ -- 12
  refine hM_ic (n := 1) rfl (by decide) rfl (fun x1 q1 => ?_) -- 13
  refine hM_clt (off := 8) (t := 22) rfl lq3 q1 (by decide) rfl (fun c14 => ?_) (fun c14 => ?_) -- 14
  · refine hM_ic (n := (-1)) rfl (by decide) rfl (fun x2 q2 => ?_) -- 22
    refine hI_ri rfl rfl ?_ -- 23
    exact g0 x2 q2 c14
  · refine hI_il (k := 3) rfl e3 rfl ?_ -- 17
    refine hM_ic (n := 5) rfl (by decide) rfl (fun x3 q3 => ?_) -- 18
    refine hM_cle (off := 5) (t := 24) rfl lq3 q3 (by decide) rfl (fun c19 => ?_) (fun c19 => ?_) -- 19
    · refine hI_il (k := 3) rfl e3 rfl ?_ -- 24
      refine hM_ic (n := 1) rfl (by decide) rfl (fun x4 q4 => ?_) -- 25
      refine hM_ceq (off := 13) (t := 39) rfl lq3 q4 (by decide) rfl (fun c26 => ?_) (fun c26 => ?_) -- 26
      · refine hM_ic (n := 1) rfl (by decide) rfl (fun x5 q5 => ?_) -- 39
        refine hI_go (pc' := 44) (off := 4) rfl (by decide) ?_ -- 40
        refine hM_si2 (k := 8) rfl (by decide +kernel) rfl (fun lv6 e6_8 u6 => ?_) -- 44
        have e6_1 := u6 1 _ (by decide) (Or.inl rfl) e1
        have e6_2 := u6 2 _ (by decide) (Or.inl rfl) e2
        have e6_3 := u6 3 _ (by decide) (Or.inl rfl) e3
        have e6_4 := u6 4 _ (by decide) (Or.inl rfl) e4
        have e6_5 := u6 5 _ (by decide) (Or.inl rfl) e5
        have e6_6 := u6 6 _ (by decide) (Or.inl rfl) e6
        have e6_7 := u6 7 _ (by decide) (Or.inl rfl) e7
        refine hI_il (k := 3) rfl e6_3 rfl ?_ -- 46
        refine hM_ic (n := 4) rfl (by decide) rfl (fun x7 q7 => ?_) -- 47
        refine hM_cne (off := 8) (t := 56) rfl lq3 q7 (by decide) rfl (fun c48 => ?_) (fun c48 => ?_) -- 48
        · refine hI_il2 (k := 4) rfl e6_4 rfl ?_ -- 56
          refine hM_si2 (k := 9) rfl (by decide +kernel) rfl (fun lv8 e8_9 u8 => ?_) -- 58
          have e8_1 := u8 1 _ (by decide) (Or.inl rfl) e6_1
          have e8_2 := u8 2 _ (by decide) (Or.inl rfl) e6_2
          have e8_3 := u8 3 _ (by decide) (Or.inl rfl) e6_3
          have e8_4 := u8 4 _ (by decide) (Or.inl rfl) e6_4
          have e8_5 := u8 5 _ (by decide) (Or.inl rfl) e6_5
          have e8_6 := u8 6 _ (by decide) (Or.inl rfl) e6_6
          have e8_7 := u8 7 _ (by decide) (Or.inl rfl) e6_7
          have e8_8 := u8 8 _ (by decide) (Or.inl rfl) e6_8
          refine hI_il2 (k := 8) rfl e8_8 rfl ?_ -- 60
          refine hM_zeq (off := 17) (t := 79) rfl q5 (by decide) rfl (fun c62 => ?_) (fun c62 => ?_) -- 62
          · exfalso; omega
          · refine hI_il2 (k := 9) rfl e8_9 rfl ?_ -- 65
            refine hM_zlt (off := 10) (t := 77) rfl lq4 (by decide) rfl (fun c67 => ?_) (fun c67 => ?_) -- 67
            · refine hM_ic (n := (-1)) rfl (by decide) rfl (fun x9 q9 => ?_) -- 77
              refine hI_ri rfl rfl ?_ -- 78
              exact g1 x9 q9 lv8 c14 c19 c26 c48 c67
            · refine hI_il2 (k := 9) rfl e8_9 rfl ?_ -- 70
              refine hM_bp (n := 99) rfl (by decide) rfl (fun x10 q10 => ?_) -- 72
              refine hM_cle (off := 5) (t := 79) rfl lq4 q10 (by decide) rfl (fun c74 => ?_) (fun c74 => ?_) -- 74
              · refine hI_al2 (k := 7) rfl e8_7 rfl ?_ -- 79
                refine hI_il (k := 3) rfl e8_3 rfl ?_ -- 81
                refine hI_il (k := 2) rfl e8_2 rfl ?_ -- 82
                refine hI_il2 (k := 4) rfl e8_4 rfl ?_ -- 83
                refine hI_il2 (k := 5) rfl e8_5 rfl ?_ -- 85
                refine hI_il2 (k := 6) rfl e8_6 rfl ?_ -- 87
                refine HJ.call (j := 169) (as := [.ref pa, .int lx3, .int lx2, .int lx4, .int lx5, .int lx6]) (rr := []) (pc' := 92) (m_cR (kc := 3) rfl rfl (by decide +kernel) rfl rfl rfl ⟨rfl, by decide +kernel, by decide +kernel⟩ (by decide) hs0 (by rw [M.2.1]; exact hk0)) (by show 6 ≤ m_lc 169; decide +kernel) ?_ -- 89
                exact g2 x5 q5 lv8 e8_1 e8_2 e8_3 e8_4 e8_5 e8_6 e8_7 e8_8 e8_9 c14 c19 c26 c48 c67 c74
              · refine hM_ic (n := (-1)) rfl (by decide) rfl (fun x11 q11 => ?_) -- 77
                refine hI_ri rfl rfl ?_ -- 78
                exact g3 x11 q11 lv8 c14 c19 c26 c48 c67 c74
        · refine hI_il2 (k := 5) rfl e6_5 rfl ?_ -- 51
          refine hI_go (pc' := 58) (off := 5) rfl (by decide) ?_ -- 53
          refine hM_si2 (k := 9) rfl (by decide +kernel) rfl (fun lv12 e12_9 u12 => ?_) -- 58
          have e12_1 := u12 1 _ (by decide) (Or.inl rfl) e6_1
          have e12_2 := u12 2 _ (by decide) (Or.inl rfl) e6_2
          have e12_3 := u12 3 _ (by decide) (Or.inl rfl) e6_3
          have e12_4 := u12 4 _ (by decide) (Or.inl rfl) e6_4
          have e12_5 := u12 5 _ (by decide) (Or.inl rfl) e6_5
          have e12_6 := u12 6 _ (by decide) (Or.inl rfl) e6_6
          have e12_7 := u12 7 _ (by decide) (Or.inl rfl) e6_7
          have e12_8 := u12 8 _ (by decide) (Or.inl rfl) e6_8
          refine hI_il2 (k := 8) rfl e12_8 rfl ?_ -- 60
          refine hM_zeq (off := 17) (t := 79) rfl q5 (by decide) rfl (fun c62 => ?_) (fun c62 => ?_) -- 62
          · exfalso; omega
          · refine hI_il2 (k := 9) rfl e12_9 rfl ?_ -- 65
            refine hM_zlt (off := 10) (t := 77) rfl lq5 (by decide) rfl (fun c67 => ?_) (fun c67 => ?_) -- 67
            · refine hM_ic (n := (-1)) rfl (by decide) rfl (fun x13 q13 => ?_) -- 77
              refine hI_ri rfl rfl ?_ -- 78
              exact g4 x13 q13 lv12 c14 c19 c26 c48 c67
            · refine hI_il2 (k := 9) rfl e12_9 rfl ?_ -- 70
              refine hM_bp (n := 99) rfl (by decide) rfl (fun x14 q14 => ?_) -- 72
              refine hM_cle (off := 5) (t := 79) rfl lq5 q14 (by decide) rfl (fun c74 => ?_) (fun c74 => ?_) -- 74
              · refine hI_al2 (k := 7) rfl e12_7 rfl ?_ -- 79
                refine hI_il (k := 3) rfl e12_3 rfl ?_ -- 81
                refine hI_il (k := 2) rfl e12_2 rfl ?_ -- 82
                refine hI_il2 (k := 4) rfl e12_4 rfl ?_ -- 83
                refine hI_il2 (k := 5) rfl e12_5 rfl ?_ -- 85
                refine hI_il2 (k := 6) rfl e12_6 rfl ?_ -- 87
                refine HJ.call (j := 169) (as := [.ref pa, .int lx3, .int lx2, .int lx4, .int lx5, .int lx6]) (rr := []) (pc' := 92) (m_cR (kc := 3) rfl rfl (by decide +kernel) rfl rfl rfl ⟨rfl, by decide +kernel, by decide +kernel⟩ (by decide) hs0 (by rw [M.2.1]; exact hk0)) (by show 6 ≤ m_lc 169; decide +kernel) ?_ -- 89
                exact g5 x5 q5 lv12 e12_1 e12_2 e12_3 e12_4 e12_5 e12_6 e12_7 e12_8 e12_9 c14 c19 c26 c48 c67 c74
              · refine hM_ic (n := (-1)) rfl (by decide) rfl (fun x15 q15 => ?_) -- 77
                refine hI_ri rfl rfl ?_ -- 78
                exact g6 x15 q15 lv12 c14 c19 c26 c48 c67 c74
      · refine hI_il (k := 3) rfl e3 rfl ?_ -- 29
        refine hM_ic (n := 4) rfl (by decide) rfl (fun x16 q16 => ?_) -- 30
        refine hM_ceq (off := 8) (t := 39) rfl lq3 q16 (by decide) rfl (fun c31 => ?_) (fun c31 => ?_) -- 31
        · refine hM_ic (n := 1) rfl (by decide) rfl (fun x17 q17 => ?_) -- 39
          refine hI_go (pc' := 44) (off := 4) rfl (by decide) ?_ -- 40
          refine hM_si2 (k := 8) rfl (by decide +kernel) rfl (fun lv18 e18_8 u18 => ?_) -- 44
          have e18_1 := u18 1 _ (by decide) (Or.inl rfl) e1
          have e18_2 := u18 2 _ (by decide) (Or.inl rfl) e2
          have e18_3 := u18 3 _ (by decide) (Or.inl rfl) e3
          have e18_4 := u18 4 _ (by decide) (Or.inl rfl) e4
          have e18_5 := u18 5 _ (by decide) (Or.inl rfl) e5
          have e18_6 := u18 6 _ (by decide) (Or.inl rfl) e6
          have e18_7 := u18 7 _ (by decide) (Or.inl rfl) e7
          refine hI_il (k := 3) rfl e18_3 rfl ?_ -- 46
          refine hM_ic (n := 4) rfl (by decide) rfl (fun x19 q19 => ?_) -- 47
          refine hM_cne (off := 8) (t := 56) rfl lq3 q19 (by decide) rfl (fun c48 => ?_) (fun c48 => ?_) -- 48
          · exfalso; omega
          · refine hI_il2 (k := 5) rfl e18_5 rfl ?_ -- 51
            refine hI_go (pc' := 58) (off := 5) rfl (by decide) ?_ -- 53
            refine hM_si2 (k := 9) rfl (by decide +kernel) rfl (fun lv20 e20_9 u20 => ?_) -- 58
            have e20_1 := u20 1 _ (by decide) (Or.inl rfl) e18_1
            have e20_2 := u20 2 _ (by decide) (Or.inl rfl) e18_2
            have e20_3 := u20 3 _ (by decide) (Or.inl rfl) e18_3
            have e20_4 := u20 4 _ (by decide) (Or.inl rfl) e18_4
            have e20_5 := u20 5 _ (by decide) (Or.inl rfl) e18_5
            have e20_6 := u20 6 _ (by decide) (Or.inl rfl) e18_6
            have e20_7 := u20 7 _ (by decide) (Or.inl rfl) e18_7
            have e20_8 := u20 8 _ (by decide) (Or.inl rfl) e18_8
            refine hI_il2 (k := 8) rfl e20_8 rfl ?_ -- 60
            refine hM_zeq (off := 17) (t := 79) rfl q17 (by decide) rfl (fun c62 => ?_) (fun c62 => ?_) -- 62
            · exfalso; omega
            · refine hI_il2 (k := 9) rfl e20_9 rfl ?_ -- 65
              refine hM_zlt (off := 10) (t := 77) rfl lq5 (by decide) rfl (fun c67 => ?_) (fun c67 => ?_) -- 67
              · refine hM_ic (n := (-1)) rfl (by decide) rfl (fun x21 q21 => ?_) -- 77
                refine hI_ri rfl rfl ?_ -- 78
                exact g7 x21 q21 lv20 c14 c19 c26 c31 c67
              · refine hI_il2 (k := 9) rfl e20_9 rfl ?_ -- 70
                refine hM_bp (n := 99) rfl (by decide) rfl (fun x22 q22 => ?_) -- 72
                refine hM_cle (off := 5) (t := 79) rfl lq5 q22 (by decide) rfl (fun c74 => ?_) (fun c74 => ?_) -- 74
                · refine hI_al2 (k := 7) rfl e20_7 rfl ?_ -- 79
                  refine hI_il (k := 3) rfl e20_3 rfl ?_ -- 81
                  refine hI_il (k := 2) rfl e20_2 rfl ?_ -- 82
                  refine hI_il2 (k := 4) rfl e20_4 rfl ?_ -- 83
                  refine hI_il2 (k := 5) rfl e20_5 rfl ?_ -- 85
                  refine hI_il2 (k := 6) rfl e20_6 rfl ?_ -- 87
                  refine HJ.call (j := 169) (as := [.ref pa, .int lx3, .int lx2, .int lx4, .int lx5, .int lx6]) (rr := []) (pc' := 92) (m_cR (kc := 3) rfl rfl (by decide +kernel) rfl rfl rfl ⟨rfl, by decide +kernel, by decide +kernel⟩ (by decide) hs0 (by rw [M.2.1]; exact hk0)) (by show 6 ≤ m_lc 169; decide +kernel) ?_ -- 89
                  exact g8 x17 q17 lv20 e20_1 e20_2 e20_3 e20_4 e20_5 e20_6 e20_7 e20_8 e20_9 c14 c19 c26 c31 c67 c74
                · refine hM_ic (n := (-1)) rfl (by decide) rfl (fun x23 q23 => ?_) -- 77
                  refine hI_ri rfl rfl ?_ -- 78
                  exact g9 x23 q23 lv20 c14 c19 c26 c31 c67 c74
        · refine hI_il (k := 3) rfl e3 rfl ?_ -- 34
          refine hM_ic (n := 5) rfl (by decide) rfl (fun x24 q24 => ?_) -- 35
          refine hM_cne (off := 7) (t := 43) rfl lq3 q24 (by decide) rfl (fun c36 => ?_) (fun c36 => ?_) -- 36
          · refine hM_ic (n := 0) rfl (by decide) rfl (fun x25 q25 => ?_) -- 43
            refine hM_si2 (k := 8) rfl (by decide +kernel) rfl (fun lv26 e26_8 u26 => ?_) -- 44
            have e26_1 := u26 1 _ (by decide) (Or.inl rfl) e1
            have e26_2 := u26 2 _ (by decide) (Or.inl rfl) e2
            have e26_3 := u26 3 _ (by decide) (Or.inl rfl) e3
            have e26_4 := u26 4 _ (by decide) (Or.inl rfl) e4
            have e26_5 := u26 5 _ (by decide) (Or.inl rfl) e5
            have e26_6 := u26 6 _ (by decide) (Or.inl rfl) e6
            have e26_7 := u26 7 _ (by decide) (Or.inl rfl) e7
            refine hI_il (k := 3) rfl e26_3 rfl ?_ -- 46
            refine hM_ic (n := 4) rfl (by decide) rfl (fun x27 q27 => ?_) -- 47
            refine hM_cne (off := 8) (t := 56) rfl lq3 q27 (by decide) rfl (fun c48 => ?_) (fun c48 => ?_) -- 48
            · refine hI_il2 (k := 4) rfl e26_4 rfl ?_ -- 56
              refine hM_si2 (k := 9) rfl (by decide +kernel) rfl (fun lv28 e28_9 u28 => ?_) -- 58
              have e28_1 := u28 1 _ (by decide) (Or.inl rfl) e26_1
              have e28_2 := u28 2 _ (by decide) (Or.inl rfl) e26_2
              have e28_3 := u28 3 _ (by decide) (Or.inl rfl) e26_3
              have e28_4 := u28 4 _ (by decide) (Or.inl rfl) e26_4
              have e28_5 := u28 5 _ (by decide) (Or.inl rfl) e26_5
              have e28_6 := u28 6 _ (by decide) (Or.inl rfl) e26_6
              have e28_7 := u28 7 _ (by decide) (Or.inl rfl) e26_7
              have e28_8 := u28 8 _ (by decide) (Or.inl rfl) e26_8
              refine hI_il2 (k := 8) rfl e28_8 rfl ?_ -- 60
              refine hM_zeq (off := 17) (t := 79) rfl q25 (by decide) rfl (fun c62 => ?_) (fun c62 => ?_) -- 62
              · refine hI_al2 (k := 7) rfl e28_7 rfl ?_ -- 79
                refine hI_il (k := 3) rfl e28_3 rfl ?_ -- 81
                refine hI_il (k := 2) rfl e28_2 rfl ?_ -- 82
                refine hI_il2 (k := 4) rfl e28_4 rfl ?_ -- 83
                refine hI_il2 (k := 5) rfl e28_5 rfl ?_ -- 85
                refine hI_il2 (k := 6) rfl e28_6 rfl ?_ -- 87
                refine HJ.call (j := 169) (as := [.ref pa, .int lx3, .int lx2, .int lx4, .int lx5, .int lx6]) (rr := []) (pc' := 92) (m_cR (kc := 3) rfl rfl (by decide +kernel) rfl rfl rfl ⟨rfl, by decide +kernel, by decide +kernel⟩ (by decide) hs0 (by rw [M.2.1]; exact hk0)) (by show 6 ≤ m_lc 169; decide +kernel) ?_ -- 89
                exact g10 x25 q25 lv28 e28_1 e28_2 e28_3 e28_4 e28_5 e28_6 e28_7 e28_8 e28_9 c14 c19 c26 c31 c36
              · exfalso; omega
            · exfalso; omega
          · refine hM_ic (n := 1) rfl (by decide) rfl (fun x29 q29 => ?_) -- 39
            refine hI_go (pc' := 44) (off := 4) rfl (by decide) ?_ -- 40
            refine hM_si2 (k := 8) rfl (by decide +kernel) rfl (fun lv30 e30_8 u30 => ?_) -- 44
            have e30_1 := u30 1 _ (by decide) (Or.inl rfl) e1
            have e30_2 := u30 2 _ (by decide) (Or.inl rfl) e2
            have e30_3 := u30 3 _ (by decide) (Or.inl rfl) e3
            have e30_4 := u30 4 _ (by decide) (Or.inl rfl) e4
            have e30_5 := u30 5 _ (by decide) (Or.inl rfl) e5
            have e30_6 := u30 6 _ (by decide) (Or.inl rfl) e6
            have e30_7 := u30 7 _ (by decide) (Or.inl rfl) e7
            refine hI_il (k := 3) rfl e30_3 rfl ?_ -- 46
            refine hM_ic (n := 4) rfl (by decide) rfl (fun x31 q31 => ?_) -- 47
            refine hM_cne (off := 8) (t := 56) rfl lq3 q31 (by decide) rfl (fun c48 => ?_) (fun c48 => ?_) -- 48
            · refine hI_il2 (k := 4) rfl e30_4 rfl ?_ -- 56
              refine hM_si2 (k := 9) rfl (by decide +kernel) rfl (fun lv32 e32_9 u32 => ?_) -- 58
              have e32_1 := u32 1 _ (by decide) (Or.inl rfl) e30_1
              have e32_2 := u32 2 _ (by decide) (Or.inl rfl) e30_2
              have e32_3 := u32 3 _ (by decide) (Or.inl rfl) e30_3
              have e32_4 := u32 4 _ (by decide) (Or.inl rfl) e30_4
              have e32_5 := u32 5 _ (by decide) (Or.inl rfl) e30_5
              have e32_6 := u32 6 _ (by decide) (Or.inl rfl) e30_6
              have e32_7 := u32 7 _ (by decide) (Or.inl rfl) e30_7
              have e32_8 := u32 8 _ (by decide) (Or.inl rfl) e30_8
              refine hI_il2 (k := 8) rfl e32_8 rfl ?_ -- 60
              refine hM_zeq (off := 17) (t := 79) rfl q29 (by decide) rfl (fun c62 => ?_) (fun c62 => ?_) -- 62
              · exfalso; omega
              · refine hI_il2 (k := 9) rfl e32_9 rfl ?_ -- 65
                refine hM_zlt (off := 10) (t := 77) rfl lq4 (by decide) rfl (fun c67 => ?_) (fun c67 => ?_) -- 67
                · refine hM_ic (n := (-1)) rfl (by decide) rfl (fun x33 q33 => ?_) -- 77
                  refine hI_ri rfl rfl ?_ -- 78
                  exact g11 x33 q33 lv32 c14 c19 c26 c31 c36 c67
                · refine hI_il2 (k := 9) rfl e32_9 rfl ?_ -- 70
                  refine hM_bp (n := 99) rfl (by decide) rfl (fun x34 q34 => ?_) -- 72
                  refine hM_cle (off := 5) (t := 79) rfl lq4 q34 (by decide) rfl (fun c74 => ?_) (fun c74 => ?_) -- 74
                  · refine hI_al2 (k := 7) rfl e32_7 rfl ?_ -- 79
                    refine hI_il (k := 3) rfl e32_3 rfl ?_ -- 81
                    refine hI_il (k := 2) rfl e32_2 rfl ?_ -- 82
                    refine hI_il2 (k := 4) rfl e32_4 rfl ?_ -- 83
                    refine hI_il2 (k := 5) rfl e32_5 rfl ?_ -- 85
                    refine hI_il2 (k := 6) rfl e32_6 rfl ?_ -- 87
                    refine HJ.call (j := 169) (as := [.ref pa, .int lx3, .int lx2, .int lx4, .int lx5, .int lx6]) (rr := []) (pc' := 92) (m_cR (kc := 3) rfl rfl (by decide +kernel) rfl rfl rfl ⟨rfl, by decide +kernel, by decide +kernel⟩ (by decide) hs0 (by rw [M.2.1]; exact hk0)) (by show 6 ≤ m_lc 169; decide +kernel) ?_ -- 89
                    exact g12 x29 q29 lv32 e32_1 e32_2 e32_3 e32_4 e32_5 e32_6 e32_7 e32_8 e32_9 c14 c19 c26 c31 c36 c67 c74
                  · refine hM_ic (n := (-1)) rfl (by decide) rfl (fun x35 q35 => ?_) -- 77
                    refine hI_ri rfl rfl ?_ -- 78
                    exact g13 x35 q35 lv32 c14 c19 c26 c31 c36 c67 c74
            · exfalso; omega
    · refine hM_ic (n := (-1)) rfl (by decide) rfl (fun x36 q36 => ?_) -- 22
      refine hI_ri rfl rfl ?_ -- 23
      exact g14 x36 q36 c14 c19
theorem r_wd92 {z : Int} (M : RX h0 h H) {sx0 : Int32} (sq0 : sx0.toInt = z) 
    (g0 : Q (some (.int sx0)) h)
    : HJ 168 92 lv [.int sx0] h Q := by
  refine hI_ri rfl rfl ?_ -- 92
  exact g0 
theorem r_fo18 {pa : Nat} {q m : Int} (M : RX h0 h H) {lx2 : Int64} (e2 : m_lk lv 2 = some (.long lx2)) {lx4 : Int32} (e4 : m_lk lv 4 = some (.int lx4)) (lq4 : lx4.toInt = q) (e5 : m_lk lv 5 = some (.ref pa)) {lx6 : Int32} (e6 : m_lk lv 6 = some (.int lx6)) (lq6 : lx6.toInt = m)  (hs0 : 16 ≤ pa) (hk0 : (h_k h0 pa).1 = 4)
    (g0 : HJ 150 0 (lv_args 0 [.ref pa, .long lx2]) [] h (fun v h' => HJ 170 24 lv (v.toList ++ []) h' Q))
    : HJ 170 18 lv [] h Q := by
  refine hI_al2 (k := 5) rfl e5 rfl ?_ -- 18
  refine hI_ll (k := 2) rfl e2 rfl ?_ -- 20
  refine HJ.call (j := 150) (as := [.ref pa, .long lx2]) (rr := []) (pc' := 24) (m_cR (kc := 3) rfl rfl (by decide +kernel) rfl rfl rfl ⟨rfl, by decide +kernel, by decide +kernel⟩ (by decide) hs0 (by rw [M.2.1]; exact hk0)) (by show 3 ≤ m_lc 150; decide +kernel) ?_ -- 21
  exact g0 
theorem r_fo24 {pa : Nat} {q m z : Int} (M : RX h0 h H) {lx2 : Int64} (e2 : m_lk lv 2 = some (.long lx2)) {lx4 : Int32} (e4 : m_lk lv 4 = some (.int lx4)) (lq4 : lx4.toInt = q) (e5 : m_lk lv 5 = some (.ref pa)) {lx6 : Int32} (e6 : m_lk lv 6 = some (.int lx6)) (lq6 : lx6.toInt = m) {sx0 : Int32} (sq0 : sx0.toInt = z)  (hs0 : 16 ≤ pa) (hk0 : (h_k h0 pa).1 = 4)
    (g0 : ∀ x1 : Int32, x1.toInt = (-1) → z = 0 → Q (some (.int x1)) h)
    (g1 : ∀ x3 : Int32, x3.toInt = (-1) → z ≠ 0 → m < 2 → Q (some (.int x3)) h)
    (g2 : z ≠ 0 → m ≥ 2 → m ≤ 5 → HJ 171 0 (lv_args 0 [.ref pa, .long lx2]) [] h (fun v h' => HJ 170 47 lv (v.toList ++ []) h' Q))
    (g3 : ∀ x5 : Int32, x5.toInt = (-1) → z ≠ 0 → m ≥ 2 → m > 5 → Q (some (.int x5)) h)
    : HJ 170 24 lv [.int sx0] h Q := by
  refine hM_zeq (off := 15) (t := 39) rfl sq0 (by decide) rfl (fun c24 => ?_) (fun c24 => ?_) -- 24
  · refine hM_ic (n := (-1)) rfl (by decide) rfl (fun x1 q1 => ?_) -- 39
    refine hI_ri rfl rfl ?_ -- 40
    exact g0 x1 q1 c24
  · refine hI_il2 (k := 6) rfl e6 rfl ?_ -- 27
    refine hM_ic (n := 2) rfl (by decide) rfl (fun x2 q2 => ?_) -- 29
    refine hM_clt (off := 9) (t := 39) rfl lq6 q2 (by decide) rfl (fun c30 => ?_) (fun c30 => ?_) -- 30
    · refine hM_ic (n := (-1)) rfl (by decide) rfl (fun x3 q3 => ?_) -- 39
      refine hI_ri rfl rfl ?_ -- 40
      exact g1 x3 q3 c24 c30
    · refine hI_il2 (k := 6) rfl e6 rfl ?_ -- 33
      refine hM_ic (n := 5) rfl (by decide) rfl (fun x4 q4 => ?_) -- 35
      refine hM_cle (off := 5) (t := 41) rfl lq6 q4 (by decide) rfl (fun c36 => ?_) (fun c36 => ?_) -- 36
      · refine hI_al2 (k := 5) rfl e5 rfl ?_ -- 41
        refine hI_ll (k := 2) rfl e2 rfl ?_ -- 43
        refine HJ.call (j := 171) (as := [.ref pa, .long lx2]) (rr := []) (pc' := 47) (m_cR (kc := 3) rfl rfl (by decide +kernel) rfl rfl rfl ⟨rfl, by decide +kernel, by decide +kernel⟩ (by decide) hs0 (by rw [M.2.1]; exact hk0)) (by show 3 ≤ m_lc 171; decide +kernel) ?_ -- 44
        exact g2 c24 c30 c36
      · refine hM_ic (n := (-1)) rfl (by decide) rfl (fun x5 q5 => ?_) -- 39
        refine hI_ri rfl rfl ?_ -- 40
        exact g3 x5 q5 c24 c30 c36
theorem r_fo47 {pa : Nat} {q m z : Int} (M : RX h0 h H) {lx2 : Int64} (e2 : m_lk lv 2 = some (.long lx2)) {lx4 : Int32} (e4 : m_lk lv 4 = some (.int lx4)) (lq4 : lx4.toInt = q) (e5 : m_lk lv 5 = some (.ref pa)) {lx6 : Int32} (e6 : m_lk lv 6 = some (.int lx6)) (lq6 : lx6.toInt = m) {sx0 : Int32} (sq0 : sx0.toInt = z) (m2 : 2 ≤ m) (m5 : m ≤ 5) (hs0 : 16 ≤ pa) (hk0 : (h_k h0 pa).1 = 4)
    (g0 : z ≤ 63 → q = 0 → HJ 172 0 (lv_args 0 [.ref pa, .long lx2, .int lx6]) [] h (fun v h' => HJ 170 86 lv (v.toList ++ []) h' Q))
    (g1 : ∀ x3 : Int32, x3.toInt = (-1) → z ≤ 63 → q ≠ 0 → q < 10 → Q (some (.int x3)) h)
    (g2 : z ≤ 63 → q ≠ 0 → q ≥ 10 → q < 10 + m → HJ 172 0 (lv_args 0 [.ref pa, .long lx2, .int lx6]) [] h (fun v h' => HJ 170 86 lv (v.toList ++ []) h' Q))
    (g3 : ∀ x6 : Int32, x6.toInt = (-1) → z ≤ 63 → q ≠ 0 → q ≥ 10 → q ≥ 10 + m → Q (some (.int x6)) h)
    (g4 : ∀ x7 : Int32, x7.toInt = (-1) → z > 63 → Q (some (.int x7)) h)
    : HJ 170 47 lv [.int sx0] h Q := by
  refine hM_bp (n := 63) rfl (by decide) rfl (fun x1 q1 => ?_) -- 47
  refine hM_cle (off := 5) (t := 54) rfl sq0 q1 (by decide) rfl (fun c49 => ?_) (fun c49 => ?_) -- 49
  · refine hI_il2 (k := 4) rfl e4 rfl ?_ -- 54
    refine hM_zeq (off := 22) (t := 78) rfl lq4 (by decide) rfl (fun c56 => ?_) (fun c56 => ?_) -- 56
    · refine hI_al2 (k := 5) rfl e5 rfl ?_ -- 78
      refine hI_ll (k := 2) rfl e2 rfl ?_ -- 80
      refine hI_il2 (k := 6) rfl e6 rfl ?_ -- 81
      refine HJ.call (j := 172) (as := [.ref pa, .long lx2, .int lx6]) (rr := []) (pc' := 86) (m_cR (kc := 3) rfl rfl (by decide +kernel) rfl rfl rfl ⟨rfl, by decide +kernel, by decide +kernel⟩ (by decide) hs0 (by rw [M.2.1]; exact hk0)) (by show 4 ≤ m_lc 172; decide +kernel) ?_ -- 83
      exact g0 c49 c56
    · refine hI_il2 (k := 4) rfl e4 rfl ?_ -- 59
      refine hM_bp (n := 10) rfl (by decide) rfl (fun x2 q2 => ?_) -- 61
      refine hM_clt (off := 13) (t := 76) rfl lq4 q2 (by decide) rfl (fun c63 => ?_) (fun c63 => ?_) -- 63
      · refine hM_ic (n := (-1)) rfl (by decide) rfl (fun x3 q3 => ?_) -- 76
        refine hI_ri rfl rfl ?_ -- 77
        exact g1 x3 q3 c49 c56 c63
      · refine hI_il2 (k := 4) rfl e4 rfl ?_ -- 66
        refine hM_bp (n := 10) rfl (by decide) rfl (fun x4 q4 => ?_) -- 68
        refine hI_il2 (k := 6) rfl e6 rfl ?_ -- 70
        refine hM_add rfl q4 lq6 (by omega) (by omega) rfl (fun x5 q5 => ?_) -- 72
        refine hM_clt (off := 5) (t := 78) rfl lq4 q5 (by decide) rfl (fun c73 => ?_) (fun c73 => ?_) -- 73
        · refine hI_al2 (k := 5) rfl e5 rfl ?_ -- 78
          refine hI_ll (k := 2) rfl e2 rfl ?_ -- 80
          refine hI_il2 (k := 6) rfl e6 rfl ?_ -- 81
          refine HJ.call (j := 172) (as := [.ref pa, .long lx2, .int lx6]) (rr := []) (pc' := 86) (m_cR (kc := 3) rfl rfl (by decide +kernel) rfl rfl rfl ⟨rfl, by decide +kernel, by decide +kernel⟩ (by decide) hs0 (by rw [M.2.1]; exact hk0)) (by show 4 ≤ m_lc 172; decide +kernel) ?_ -- 83
          exact g2 c49 c56 c63 c73
        · refine hM_ic (n := (-1)) rfl (by decide) rfl (fun x6 q6 => ?_) -- 76
          refine hI_ri rfl rfl ?_ -- 77
          exact g3 x6 q6 c49 c56 c63 c73
  · refine hM_ic (n := (-1)) rfl (by decide) rfl (fun x7 q7 => ?_) -- 52
    refine hI_ri rfl rfl ?_ -- 53
    exact g4 x7 q7 c49
theorem r_fo86 {pa : Nat} {q z : Int} (M : RX h0 h H) {lx4 : Int32} (e4 : m_lk lv 4 = some (.int lx4)) (lq4 : lx4.toInt = q) (e5 : m_lk lv 5 = some (.ref pa)) {sx0 : Int32} (sq0 : sx0.toInt = z) (q0 : q ≠ 0 → 10 ≤ q ∧ q ≤ 14) (hk0 : (h_k h0 pa).1 = 4) (ha0 : (h_k h0 (h_r h0 pa 10)).1 = 20) (hl0 : 5 ≤ ((h_k h0 (h_r h0 pa 10)).2 : Int))
    (g0 : ∀ x4 : Int32, x4.toInt = H (h_r h0 pa 10) (q - 10).toNat → ∀ lv1 : List (Nat × Value), q ≠ 0 → Q (some (.int x4)) h)
    (g1 : ∀ lv1 : List (Nat × Value), q = 0 → Q (some (.int sx0)) h)
    : HJ 170 86 lv [.int sx0] h Q := by
  refine hM_si2 (k := 7) rfl (by decide +kernel) rfl (fun lv1 e1_7 u1 => ?_) -- 86
  have e1_4 := u1 4 _ (by decide) (Or.inl rfl) e4
  have e1_5 := u1 5 _ (by decide) (Or.inl rfl) e5
  refine hI_il2 (k := 4) rfl e1_4 rfl ?_ -- 88
  refine hM_zne (off := 8) (t := 98) rfl lq4 (by decide) rfl (fun c90 => ?_) (fun c90 => ?_) -- 90
  · refine hI_al2 (k := 5) rfl e1_5 rfl ?_ -- 98
    refine hR_gr (c := 3) (k := 10) M hk0 rfl rfl rfl rfl ?_ -- 100
    refine hI_il2 (k := 4) rfl e1_4 rfl ?_ -- 103
    refine hM_bp (n := 10) rfl (by decide) rfl (fun x2 q2 => ?_) -- 105
    refine hM_sub rfl lq4 q2 (by omega) (by omega) rfl (fun x3 q3 => ?_) -- 107
    refine hR_ia M ha0 q3 (by omega) (by omega) rfl rfl (fun x4 q4 => ?_) -- 108
    have gb4 : -2147483648 ≤ H (h_r h0 pa 10) (q - 10).toNat ∧ H (h_r h0 pa 10) (q - 10).toNat ≤ 2147483647 := by rw [← q4]; exact g_iT _
    refine hI_ri rfl rfl ?_ -- 109
    exact g0 x4 q4 lv1 c90
  · refine hI_il2 (k := 7) rfl e1_7 rfl ?_ -- 93
    refine hI_go (pc' := 109) (off := 14) rfl (by decide) ?_ -- 95
    refine hI_ri rfl rfl ?_ -- 109
    exact g1 lv1 c90
theorem r_dn12 {pa : Nat} {v s k q : Int} (M : RX h0 h H) {lx2 : Int32} (e2 : m_lk lv 2 = some (.int lx2)) (lq2 : lx2.toInt = v) {lx3 : Int32} (e3 : m_lk lv 3 = some (.int lx3)) (lq3 : lx3.toInt = s) {lx4 : Int32} (e4 : m_lk lv 4 = some (.int lx4)) (lq4 : lx4.toInt = k) {lx5 : Int32} (e5 : m_lk lv 5 = some (.int lx5)) (lq5 : lx5.toInt = q) (e6 : m_lk lv 6 = some (.ref pa))  (hs0 : 16 ≤ pa) (hk0 : (h_k h0 pa).1 = 4)
    (g0 : HJ 57 0 (lv_args 0 [.ref pa, .int lx2]) [] h (fun v h' => HJ 178 18 lv (v.toList ++ []) h' Q))
    : HJ 178 12 lv [] h Q := by
  refine hI_al2 (k := 6) rfl e6 rfl ?_ -- 12
  refine hI_il (k := 2) rfl e2 rfl ?_ -- 14
  refine HJ.call (j := 57) (as := [.ref pa, .int lx2]) (rr := []) (pc' := 18) (m_cR (kc := 3) rfl rfl (by decide +kernel) rfl rfl rfl ⟨rfl, by decide +kernel, by decide +kernel⟩ (by decide) hs0 (by rw [M.2.1]; exact hk0)) (by show 2 ≤ m_lc 57; decide +kernel) ?_ -- 15
  exact g0 
theorem r_dn18 {pa : Nat} {v s k q z : Int} (M : RX h0 h H) {lx2 : Int32} (e2 : m_lk lv 2 = some (.int lx2)) (lq2 : lx2.toInt = v) {lx3 : Int32} (e3 : m_lk lv 3 = some (.int lx3)) (lq3 : lx3.toInt = s) {lx4 : Int32} (e4 : m_lk lv 4 = some (.int lx4)) (lq4 : lx4.toInt = k) {lx5 : Int32} (e5 : m_lk lv 5 = some (.int lx5)) (lq5 : lx5.toInt = q) (e6 : m_lk lv 6 = some (.ref pa)) {sx0 : Int32} (sq0 : sx0.toInt = z)  (hs0 : 16 ≤ pa) (hk0 : (h_k h0 pa).1 = 4)
    (g0 : ∀ x1 : Int32, x1.toInt = (-2) → z = 0 → Q (some (.int x1)) h)
    (g1 : ∀ x3 : Int32, x3.toInt = (-2) → z ≠ 0 → k < 1 → Q (some (.int x3)) h)
    (g2 : ∀ x5 : Int32, x5.toInt = (-2) → z ≠ 0 → k ≥ 1 → k > 30 → Q (some (.int x5)) h)
    (g3 : ∀ x6 : Int32, x6.toInt = (-2) → z ≠ 0 → k ≥ 1 → k ≤ 30 → q < 0 → Q (some (.int x6)) h)
    (g4 : z ≠ 0 → k ≥ 1 → k ≤ 30 → q ≥ 0 → q ≤ 3 → HJ 179 0 (lv_args 0 [.ref pa, .int lx2, .int lx3, .int lx4, .int lx5]) [] h (fun v h' => HJ 178 59 lv (v.toList ++ []) h' Q))
    (g5 : ∀ x8 : Int32, x8.toInt = (-2) → z ≠ 0 → k ≥ 1 → k ≤ 30 → q ≥ 0 → q > 3 → Q (some (.int x8)) h)
    : HJ 178 18 lv [.int sx0] h Q := by
  refine hM_zeq (off := 27) (t := 45) rfl sq0 (by decide) rfl (fun c18 => ?_) (fun c18 => ?_) -- 18
  · refine hM_bp (n := (-2)) rfl (by decide) rfl (fun x1 q1 => ?_) -- 45
    refine hI_ri rfl rfl ?_ -- 47
    exact g0 x1 q1 c18
  · refine hI_il2 (k := 4) rfl e4 rfl ?_ -- 21
    refine hM_ic (n := 1) rfl (by decide) rfl (fun x2 q2 => ?_) -- 23
    refine hM_clt (off := 21) (t := 45) rfl lq4 q2 (by decide) rfl (fun c24 => ?_) (fun c24 => ?_) -- 24
    · refine hM_bp (n := (-2)) rfl (by decide) rfl (fun x3 q3 => ?_) -- 45
      refine hI_ri rfl rfl ?_ -- 47
      exact g1 x3 q3 c18 c24
    · refine hI_il2 (k := 4) rfl e4 rfl ?_ -- 27
      refine hM_bp (n := 30) rfl (by decide) rfl (fun x4 q4 => ?_) -- 29
      refine hM_cgt (off := 14) (t := 45) rfl lq4 q4 (by decide) rfl (fun c31 => ?_) (fun c31 => ?_) -- 31
      · refine hM_bp (n := (-2)) rfl (by decide) rfl (fun x5 q5 => ?_) -- 45
        refine hI_ri rfl rfl ?_ -- 47
        exact g2 x5 q5 c18 c24 c31
      · refine hI_il2 (k := 5) rfl e5 rfl ?_ -- 34
        refine hM_zlt (off := 9) (t := 45) rfl lq5 (by decide) rfl (fun c36 => ?_) (fun c36 => ?_) -- 36
        · refine hM_bp (n := (-2)) rfl (by decide) rfl (fun x6 q6 => ?_) -- 45
          refine hI_ri rfl rfl ?_ -- 47
          exact g3 x6 q6 c18 c24 c31 c36
        · refine hI_il2 (k := 5) rfl e5 rfl ?_ -- 39
          refine hM_ic (n := 3) rfl (by decide) rfl (fun x7 q7 => ?_) -- 41
          refine hM_cle (off := 6) (t := 48) rfl lq5 q7 (by decide) rfl (fun c42 => ?_) (fun c42 => ?_) -- 42
          · refine hI_al2 (k := 6) rfl e6 rfl ?_ -- 48
            refine hI_il (k := 2) rfl e2 rfl ?_ -- 50
            refine hI_il (k := 3) rfl e3 rfl ?_ -- 51
            refine hI_il2 (k := 4) rfl e4 rfl ?_ -- 52
            refine hI_il2 (k := 5) rfl e5 rfl ?_ -- 54
            refine HJ.call (j := 179) (as := [.ref pa, .int lx2, .int lx3, .int lx4, .int lx5]) (rr := []) (pc' := 59) (m_cR (kc := 3) rfl rfl (by decide +kernel) rfl rfl rfl ⟨rfl, by decide +kernel, by decide +kernel⟩ (by decide) hs0 (by rw [M.2.1]; exact hk0)) (by show 5 ≤ m_lc 179; decide +kernel) ?_ -- 56
            exact g4 c18 c24 c31 c36 c42
          · refine hM_bp (n := (-2)) rfl (by decide) rfl (fun x8 q8 => ?_) -- 45
            refine hI_ri rfl rfl ?_ -- 47
            exact g5 x8 q8 c18 c24 c31 c36 c42
theorem r_dn59 {z : Int} (M : RX h0 h H) {sx0 : Int32} (sq0 : sx0.toInt = z) 
    (g0 : Q (some (.int sx0)) h)
    : HJ 178 59 lv [.int sx0] h Q := by
  refine hI_ri rfl rfl ?_ -- 59
  exact g0 
end
section
variable {ρ : Nat → Nat} {h : MH} {Q : Option Value → MH → Prop}
theorem c_cwould {xr xv xw xa xb xf : Int32} (ht : TH c_sp ρ h) (n1 : c_PT 1 ρ h) (n15 : c_PT 15 ρ h) (g : ∀ (z : Int32) (h' : MH), wp_E h h' → wo_q (ac_Y h (q_ac h (h_r h 16 0) xr.toInt.toNat)) (0 ≤ xr.toInt ∧ xr.toInt < q_fd h (h_r h 16 0) 5) xw.toInt xv.toInt xa.toInt xb.toInt xf.toInt z.toInt → Q (some (.int z)) h') : HJ 168 0 (lv_args 0 [.ref 16, .int xr, .int xv, .int xw, .int xa, .int xb, .int xf]) [] h Q := by
  have h16 := n15.1
  have k0 := wp_0 n15
  refine hI_al (k := 0) rfl rfl rfl ?_
  refine hI_il (k := 1) rfl rfl rfl ?_
  refine hM_iv (MX.start (W := []) ht h16) (by decide) rfl rfl (by decide) (as := [.int xr]) (r := []) rfl rfl (by decide +kernel) rfl (by decide +kernel) rfl rfl rfl rfl rfl ?_
  refine r_pastOf ht h16 (fun p hp => ?_)
  show HJ 168 5 _ [.ref p] h Q
  refine hI_as2 (k := 7) rfl (by decide +kernel) rfl ?_
  refine hI_al2 (k := 7) rfl rfl rfl ?_
  rcases hp with ⟨r0, r1, ep⟩ | ⟨hb, ep⟩
  · obtain ⟨r4, p0, bk, fp⟩ := pb_at ht n15 r0 r1
    have hr : (xr.toInt.toNat : Int) < q_fd h (h_r h 16 0) 5 := by omega
    obtain ⟨kk, k40, ⟨sh, hs⟩, ⟨v1, s1, t0, t1⟩, -⟩ := ry_15 ht n15 xr.toInt.toNat hr
    have own := fun h' => own_E (h' := h') ht n15 hr
    have ok := pa_okT ht n1 fp (n15.2.1 _ r4 p0).1
    obtain ⟨l, I⟩ := bk.2.2.2.2.2.1
    have P := pr_bk bk
    have et := bk.2.2.2.2.2.2.1
    rw [← ep] at p0 bk fp own ok I P et
    generalize ac_Y h (q_ac h (h_r h 16 0) xr.toInt.toNat) = Y at *
    refine hI_nl (t := 22) rfl (by decide) rfl (Or.inr ok.1.2.1) (fun z => absurd z p0) (fun _ => ?_)
    have row : 0 ≤ xr.toInt ∧ xr.toInt < q_fd h (h_r h 16 0) 5 := ⟨r0, r1⟩
    have run : ∀ lv : List (Nat × Value), wo_in (0 ≤ xr.toInt ∧ xr.toInt < q_fd h (h_r h 16 0) 5) xw.toInt xa.toInt xb.toInt → HJ 169 0 (lv_args 0 [.ref p, .int xw, .int xv, .int xa, .int xb, .int xf]) [] h (fun v h' => HJ 168 92 lv (v.toList ++ []) h' Q) := fun lv W => by
      refine k_would ok I P sh hs (by omega) et t0 (by omega) (by have := W.2.1; omega) W.2.1.2 (wo_av W) rfl rfl rfl rfl rfl (fun x h' wq ok' I' F' Z' K' => ?_)
      show HJ 168 92 lv [.int x] h' Q
      exact r_wd92 (RX.start h') rfl (g x h' (own h' ok (F'.mono (fun a z => Or.inl z)) ⟨0, I'⟩ (fun q _ => Z' q) K') (Or.inr ⟨W, wq⟩))
    have no : ∀ x : Int32, x.toInt = -1 → ¬ wo_in (0 ≤ xr.toInt ∧ xr.toInt < q_fd h (h_r h 16 0) 5) xw.toInt xa.toInt xb.toInt → Q (some (.int x)) h := fun x q c => g x h k0 (wo_n c q)
    exact r_wd12 (RX.start h) rfl rfl rfl rfl rfl rfl rfl rfl rfl rfl rfl rfl rfl ok.1.2.1 ok.1.1
      (fun x q c => no x q (fun y => by have := y.2.1; omega))
      (fun x q _ _ _ c26 _ c67 => no x q (fun y => by have := y.2.2.1 (Or.inl c26); omega))
      (fun _ _ lv _ _ _ _ _ _ _ _ _ c14 c19 c26 c48 c67 c74 => run lv ⟨row, ⟨c14, c19⟩, fun _ => ⟨c67, c74⟩, fun c => absurd c c48⟩)
      (fun x q _ _ _ c26 _ _ c74 => no x q (fun y => by have := y.2.2.1 (Or.inl c26); omega))
      (fun x q _ _ _ c26 c48 _ => absurd c48 (by omega))
      (fun _ _ _ _ _ _ _ _ _ _ _ _ _ _ c26 c48 _ _ => absurd c48 (by omega))
      (fun x q _ _ _ c26 c48 _ _ => absurd c48 (by omega))
      (fun x q _ _ _ _ c31 c67 => no x q (fun y => by have := y.2.2.2 c31; omega))
      (fun _ _ lv _ _ _ _ _ _ _ _ _ c14 c19 c26 c31 c67 c74 => run lv ⟨row, ⟨c14, c19⟩, fun c => absurd c (by omega), fun _ => ⟨c67, c74⟩⟩)
      (fun x q _ _ _ _ c31 _ c74 => no x q (fun y => by have := y.2.2.2 c31; omega))
      (fun _ _ lv _ _ _ _ _ _ _ _ _ c14 c19 c26 c31 c36 => run lv ⟨row, ⟨c14, c19⟩, fun c => absurd c (by omega), fun c => absurd c c31⟩)
      (fun x q _ _ _ _ _ c36 c67 => no x q (fun y => by have := y.2.2.1 (Or.inr c36); omega))
      (fun _ _ lv _ _ _ _ _ _ _ _ _ c14 c19 c26 c31 c36 c67 c74 => run lv ⟨row, ⟨c14, c19⟩, fun _ => ⟨c67, c74⟩, fun c => absurd c c31⟩)
      (fun x q _ _ _ _ _ c36 _ c74 => no x q (fun y => by have := y.2.2.1 (Or.inr c36); omega))
      (fun x q _ c19 => no x q (fun y => by have := y.2.1; omega))
  · subst ep
    refine hI_nl (t := 22) rfl (by decide) rfl (Or.inl rfl) (fun _ => ?_) (fun z => absurd rfl z)
    exact hM_ic (n := (-1)) rfl (by decide) rfl (fun x q => hI_ri rfl rfl (g x h k0 (wo_n (fun y => hb y.1) q)))
theorem c_cfold {xr xq : Int32} {xs : Int64} (ht : TH c_sp ρ h) (n1 : c_PT 1 ρ h) (n15 : c_PT 15 ρ h) (g : ∀ (z : Int32) (h' : MH), wp_E h h' → Q (some (.int z)) h') : HJ 170 0 (lv_args 0 [.ref 16, .int xr, .long xs, .int xq]) [] h Q := by
  have h16 := n15.1
  have k0 := wp_0 n15
  refine hI_al (k := 0) rfl rfl rfl ?_
  refine hI_il (k := 1) rfl rfl rfl ?_
  refine hM_iv (MX.start (W := []) ht h16) (by decide) rfl rfl (by decide) (as := [.int xr]) (r := []) rfl rfl (by decide +kernel) rfl (by decide +kernel) rfl rfl rfl rfl rfl ?_
  refine r_pastOf ht h16 (fun p hp => ?_)
  show HJ 170 5 _ [.ref p] h Q
  refine hI_as2 (k := 5) rfl (by decide +kernel) rfl ?_
  refine hI_ll (k := 2) rfl rfl rfl ?_
  refine hM_is0 (as := [.long xs]) (r := []) rfl rfl (by decide +kernel) rfl rfl rfl rfl rfl ?_
  refine k_lb (fun xm => ?_)
  show HJ 170 11 _ [.int xm] h Q
  refine hI_is2 (k := 6) rfl (by decide +kernel) rfl ?_
  refine hI_al2 (k := 5) rfl rfl rfl ?_
  rcases hp with ⟨r0, r1, ep⟩ | ⟨hb, ep⟩
  · obtain ⟨r4, p0, bk, fp⟩ := pb_at ht n15 r0 r1
    have hr : (xr.toInt.toNat : Int) < q_fd h (h_r h 16 0) 5 := by omega
    obtain ⟨kk, k40, ⟨sh, hs⟩, ⟨v1, s1, t0, t1⟩, -⟩ := ry_15 ht n15 xr.toInt.toNat hr
    have own := fun h' => own_E (h' := h') ht n15 hr
    have ok := pa_okT ht n1 fp (n15.2.1 _ r4 p0).1
    obtain ⟨l, I⟩ := bk.2.2.2.2.2.1
    have P := pr_bk bk
    have r9 := (th_rf ht (R := 29) (by decide) rfl fp (k := 9) (R2 := 36) rfl (fun z => by cases z)).2
    have r10 := (th_rf ht (R := 29) (by decide) rfl fp (k := 10) (R2 := 37) rfl (fun z => by cases z)).2
    have t9 := tb_okT ht fp (Or.inl r9)
    have t10 := tb_okT ht fp (Or.inr r10)
    have ne := ne_r r9 r10 (by decide)
    rw [← ep] at p0 bk fp own ok I P t9 t10 ne
    generalize ac_Y h (q_ac h (h_r h 16 0) xr.toInt.toNat) = Y at *
    refine hI_nl (t := 39) rfl (by decide) rfl (Or.inr ok.1.2.1) (fun z => absurd z p0) (fun _ => ?_)
    have M := RX.start h
    have e11 : z_i h p 11 + 1 = (ry_v Y : Int) := P.1.1
    have z12 := ok.2.2.2.2.2.2.1 12 (by decide)
    have n12 : pa_n 12 = 41 := rfl
    have w12 : pa_w h p 12 = h_r h p 3 := rfl
    rw [w12] at z12
    have z4 := z12.2.2.2.1
    refine r_fo18 M rfl rfl rfl rfl rfl rfl ok.1.2.1 ok.1.1 ?_
    refine k_ha M ok.1.1 (by show 0 ≤ z_i h p 11; omega) (by show z_i h p 11 ≤ 40; omega) (fun z1 => ?_)
    show HJ 170 24 _ [.int z1] h Q
    refine r_fo24 M rfl rfl rfl rfl rfl rfl rfl ok.1.2.1 ok.1.1 (fun x _ _ => g x h k0) (fun x _ _ _ => g x h k0) (fun _ m2 m5 => ?_) (fun x _ _ _ _ => g x h k0)
    refine k_sg M ok.1.1 (by show z_i h p 11 ≤ 40; omega) z12.1 (by omega) (fun z2 => ?_)
    show HJ 170 47 _ [.int z2] h Q
    have best : ∀ lv : List (Nat × Value), m_lk lv 4 = some (.int xq) → m_lk lv 5 = some (.ref p) → (xq.toInt ≠ 0 → 10 ≤ xq.toInt ∧ xq.toInt ≤ 14) → HJ 172 0 (lv_args 0 [.ref p, .long xs, .int xm]) [] h (fun v h' => HJ 170 86 lv (v.toList ++ []) h' Q) := fun lv e4 e5 qq => by
      refine k_bf (m := xm.toInt.toNat) ok I P sh hs (by omega) t9 t10 ne (by omega) (by omega) (by omega) (fun x h' f B => ?_)
      obtain ⟨⟨ok', re⟩, ⟨F', K'⟩, I', -, Z', ⟨-, u10⟩, -⟩ := B
      have E := own h' ok F' I' (fun q _ => Z' q) K'
      show HJ 170 86 lv [.int x] h' Q
      exact r_fo86 (RX.start h') e4 rfl e5 rfl qq ok'.1.1 (by rw [re 10]; exact u10.1.1) (by rw [re 10]; have := u10.1.2.2.2.1; omega) (fun x4 _ _ _ => g x4 h' E) (fun _ _ => g x h' E)
    exact r_fo47 M rfl rfl rfl rfl rfl rfl rfl m2 m5 ok.1.2.1 ok.1.1 (fun _ c => best _ rfl rfl (fun z => absurd c z)) (fun x _ _ _ _ => g x h k0) (fun _ _ c1 c2 => best _ rfl rfl (fun _ => ⟨c1, by omega⟩)) (fun x _ _ _ _ _ => g x h k0) (fun x _ _ => g x h k0)
  · subst ep
    refine hI_nl (t := 39) rfl (by decide) rfl (Or.inl rfl) (fun _ => ?_) (fun z => absurd rfl z)
    exact hM_ic (n := (-1)) rfl (by decide) rfl (fun x _ => hI_ri rfl rfl (g x h k0))
theorem c_cdrawn {xr xv xs xk xq : Int32} (ht : TH c_sp ρ h) (n1 : c_PT 1 ρ h) (n15 : c_PT 15 ρ h) (g : ∀ (z : Int32) (h' : MH), wp_E h h' → Q (some (.int z)) h') : HJ 178 0 (lv_args 0 [.ref 16, .int xr, .int xv, .int xs, .int xk, .int xq]) [] h Q := by
  have h16 := n15.1
  have k0 := wp_0 n15
  refine hI_al (k := 0) rfl rfl rfl ?_
  refine hI_il (k := 1) rfl rfl rfl ?_
  refine hM_iv (MX.start (W := []) ht h16) (by decide) rfl rfl (by decide) (as := [.int xr]) (r := []) rfl rfl (by decide +kernel) rfl (by decide +kernel) rfl rfl rfl rfl rfl ?_
  refine r_pastOf ht h16 (fun p hp => ?_)
  show HJ 178 5 _ [.ref p] h Q
  refine hI_as2 (k := 6) rfl (by decide +kernel) rfl ?_
  refine hI_al2 (k := 6) rfl rfl rfl ?_
  rcases hp with ⟨r0, r1, ep⟩ | ⟨hb, ep⟩
  · obtain ⟨r4, p0, bk, fp⟩ := pb_at ht n15 r0 r1
    have hr : (xr.toInt.toNat : Int) < q_fd h (h_r h 16 0) 5 := by omega
    obtain ⟨kk, k40, ⟨sh, hs⟩, ⟨v1, s1, t0, t1⟩, -⟩ := ry_15 ht n15 xr.toInt.toNat hr
    have own := fun h' => own_E (h' := h') ht n15 hr
    have ok := pa_okT ht n1 fp (n15.2.1 _ r4 p0).1
    obtain ⟨l, I⟩ := bk.2.2.2.2.2.1
    have P := pr_bk bk
    have et := bk.2.2.2.2.2.2.1
    rw [← ep] at p0 bk fp own ok I P et
    generalize ac_Y h (q_ac h (h_r h 16 0) xr.toInt.toNat) = Y at *
    refine hI_nl (t := 45) rfl (by decide) rfl (Or.inr ok.1.2.1) (fun z => absurd z p0) (fun _ => ?_)
    have M := RX.start h
    have e11 : z_i h p 11 + 1 = (ry_v Y : Int) := P.1.1
    refine r_dn12 M rfl rfl rfl rfl rfl rfl rfl rfl rfl ok.1.2.1 ok.1.1 ?_
    refine k_has M ok.1.1 rfl (fun z hz => ?_)
    show HJ 178 18 _ [.int z] h Q
    refine r_dn18 M rfl rfl rfl rfl rfl rfl rfl rfl rfl rfl ok.1.2.1 ok.1.1 (fun x _ _ => g x h k0) (fun x _ _ _ => g x h k0) (fun x _ _ _ _ => g x h k0) (fun x _ _ _ _ _ => g x h k0) (fun zz k1 k30 q0 q3 => ?_) (fun x _ _ _ _ _ _ => g x h k0)
    have hv : 0 ≤ xv.toInt ∧ xv.toInt ≤ z_i h p 11 := by
      rcases hz with ⟨-, a, b⟩ | ⟨c, -⟩
      · exact ⟨a, b⟩
      · exact absurd c zz
    refine k_draw ok I P sh hs (by omega) et t0 (by omega) rfl hv.1 (by omega) k30 q0 q3 (fun x h' ok' I' F' Z' K' => ?_)
    show HJ 178 59 _ [.int x] h' Q
    exact r_dn59 (RX.start h') rfl (g x h' (own h' ok (F'.mono (fun a z => Or.inl z)) ⟨0, I'⟩ Z' K'))
  · subst ep
    refine hI_nl (t := 45) rfl (by decide) rfl (Or.inl rfl) (fun _ => ?_) (fun z => absurd rfl z)
    exact hM_bp (n := (-2)) rfl (by decide) rfl (fun x _ => hI_ri rfl rfl (g x h k0))
theorem c_fwould {xr xv xw xa xb xf : Int32} (hC : CCok c_CC ρ) (ht : TH c_sp ρ h) (n1 : c_PT 1 ρ h) (n2 : c_PT 2 ρ h) (n15 : c_PT 15 ρ h) (bf : 0 ≤ xf.toInt ∧ xf.toInt ≤ 1) (g : ∀ (ρ' : Nat → Nat) (h' : MH) (z : Int32), FQ ρ ρ' c_m168.2.1 h h' → TH c_sp ρ' h' → c_PT 1 ρ' h' → c_PT 2 ρ' h' → c_PT 15 ρ' h' → wo_q (ac_Y h (q_ac h (h_r h 16 0) xr.toInt.toNat)) (0 ≤ xr.toInt ∧ xr.toInt < q_fd h (h_r h 16 0) 5) xw.toInt xv.toInt xa.toInt xb.toInt xf.toInt z.toInt → Q (some (.int z)) h') : HJ 168 0 (lv_args 0 [.ref 16, .int xr, .int xv, .int xw, .int xa, .int xb, .int xf]) [] h Q := by
  refine HJ.both (c_cwould ht n1 n15 (Q := fun v h' => ∃ z : Int32, v = some (.int z) ∧ wp_E h h' ∧ wo_q (ac_Y h (q_ac h (h_r h 16 0) xr.toInt.toNat)) (0 ≤ xr.toInt ∧ xr.toInt < q_fd h (h_r h 16 0) 5) xw.toInt xv.toInt xa.toInt xb.toInt xf.toInt z.toInt) (fun z h' E wq => ⟨z, rfl, E, wq⟩)) (c_k168 (Q := fun v h' => ∃ ρ', FQ ρ ρ' c_m168.2.1 h h' ∧ TH c_sp ρ' h' ∧ c_PT 1 ρ' h' ∧ c_PT 2 ρ' h') hC ht rfl rfl rfl rfl rfl rfl rfl n15.1 bf n1 n2 (fun ρ' h' y x f t _ _ m1 m2 => ⟨ρ', f, t, m1, m2⟩)) (fun v h' ⟨z, ev, E, wq⟩ ⟨ρ', f, t, m1, m2⟩ => ?_)
  subst ev
  exact g ρ' h' z f t m1 m2 (wp_15 ht n15 f (by decide +kernel) E) wq
theorem c_ffold {xr xq : Int32} {xs : Int64} (hC : CCok c_CC ρ) (ht : TH c_sp ρ h) (n1 : c_PT 1 ρ h) (n2 : c_PT 2 ρ h) (n15 : c_PT 15 ρ h) (g : ∀ (ρ' : Nat → Nat) (h' : MH) (z : Int32), FQ ρ ρ' c_m170.2.1 h h' → TH c_sp ρ' h' → c_PT 1 ρ' h' → c_PT 2 ρ' h' → c_PT 15 ρ' h' → Q (some (.int z)) h') : HJ 170 0 (lv_args 0 [.ref 16, .int xr, .long xs, .int xq]) [] h Q := by
  refine HJ.both (c_cfold ht n1 n15 (Q := fun v h' => ∃ z, v = some (.int z) ∧ wp_E h h') (fun z h' E => ⟨z, rfl, E⟩)) (c_k170 (Q := fun v h' => ∃ ρ', FQ ρ ρ' c_m170.2.1 h h' ∧ TH c_sp ρ' h' ∧ c_PT 1 ρ' h' ∧ c_PT 2 ρ' h') hC ht rfl rfl rfl rfl n15.1 n1 n2 (fun ρ' h' y x f t _ _ m1 m2 => ⟨ρ', f, t, m1, m2⟩)) (fun v h' ⟨z, ev, E⟩ ⟨ρ', f, t, m1, m2⟩ => ?_)
  subst ev
  exact g ρ' h' z f t m1 m2 (wp_15 ht n15 f (by decide +kernel) E)
theorem c_fdrawn {xr xv xs xk xq : Int32} (hC : CCok c_CC ρ) (ht : TH c_sp ρ h) (n1 : c_PT 1 ρ h) (n2 : c_PT 2 ρ h) (n15 : c_PT 15 ρ h) (g : ∀ (ρ' : Nat → Nat) (h' : MH) (z : Int32), FQ ρ ρ' c_m178.2.1 h h' → TH c_sp ρ' h' → c_PT 1 ρ' h' → c_PT 2 ρ' h' → c_PT 15 ρ' h' → Q (some (.int z)) h') : HJ 178 0 (lv_args 0 [.ref 16, .int xr, .int xv, .int xs, .int xk, .int xq]) [] h Q := by
  refine HJ.both (c_cdrawn ht n1 n15 (Q := fun v h' => ∃ z, v = some (.int z) ∧ wp_E h h') (fun z h' E => ⟨z, rfl, E⟩)) (c_k178 (Q := fun v h' => ∃ ρ', FQ ρ ρ' c_m178.2.1 h h' ∧ TH c_sp ρ' h' ∧ c_PT 1 ρ' h' ∧ c_PT 2 ρ' h') hC ht rfl rfl rfl rfl rfl rfl n15.1 n1 n2 (fun ρ' h' y x f t _ _ m1 m2 => ⟨ρ', f, t, m1, m2⟩)) (fun v h' ⟨z, ev, E⟩ ⟨ρ', f, t, m1, m2⟩ => ?_)
  subst ev
  exact g ρ' h' z f t m1 m2 (wp_15 ht n15 f (by decide +kernel) E)
end
set_option maxRecDepth 100000 in
set_option maxHeartbeats 1000000 in
theorem case_21 : d_hand c_sp c_CC c_PT 0 c_m0 c_lcuts c_h21 := fun ρ K KA lv h σ α Q hC ht hw hT go => by
  obtain ⟨⟨e0, r0⟩, ⟨e1, r1⟩, ⟨e2, r2⟩, x, e3, qx, x0, x5, xl⟩ := lc_in hw
  have n1 := hT 1 (by decide)
  have n2 := hT 2 (by decide)
  have n7 := hT 7 (by decide)
  have n10 := hT 10 (by decide)
  have n12 := hT 12 (by decide)
  have n13 := hT 13 (by decide)
  have n14 := hT 14 (by decide)
  have n15 := hT 15 (by decide)
  have m16 : α 1 = 16 := n2.1.2.2.2.2.2.1 _ r1
  have h16 := n10.1
  have um := n10.2.1
  obtain ⟨rN, rI⟩ := n12.2.2 (α 2) r2
  have fN := nw_ob ht h16
  have fin : ∀ (ρ' : Nat → Nat) (h' : MH), FQ ρ ρ' c_m0.2.1 h h' → TH c_sp ρ' h' → c_PT 1 ρ' h' → c_PT 2 ρ' h' → c_PT 7 ρ' h' → c_PT 10 ρ' h' → c_PT 12 ρ' h' → c_PT 13 ρ' h' → c_PT 14 ρ' h' → c_PT 15 ρ' h' → HJ 0 2036 lv [] h' Q := fun ρ' h' f t a1 a2 a7 a10 a12 a13 a14 a15 => go c_hb hb_mem lv h' ρ' σ α f t (lc_out hw ht f) (by show 0 ≤ -3 * σ 3 + 0 + 2999; omega) (by show -3 * σ 3 + 0 + 2999 < -3 * σ 3 + 0 + 3000; omega) (t_7 a1 a2 a7 a10 a12 a13 a14 a15)
  show HJ 0 1219 lv [] h Q
  refine hI_al (k := 1) rfl e1 rfl ?_
  refine hL_arg (n := 1) rfl rfl rfl rfl rfl (by decide) (by decide) (by decide) e0 e3 ht r0 x0 (by first | exact xl | (rw [s2]; exact xl)) ?_
  refine hL_arg (n := 2) rfl rfl rfl rfl rfl (by decide) (by decide) (by decide) e0 e3 ht r0 x0 (by first | exact xl | (rw [s2]; exact xl)) ?_
  refine hL_arg (n := 3) rfl rfl rfl rfl rfl (by decide) (by decide) (by decide) e0 e3 ht r0 x0 (by first | exact xl | (rw [s2]; exact xl)) ?_
  refine hL_arg (n := 4) rfl rfl rfl rfl rfl (by decide) (by decide) (by decide) e0 e3 ht r0 x0 (by first | exact xl | (rw [s2]; exact xl)) ?_
  refine hL_arg (n := 5) rfl rfl rfl rfl rfl (by decide) (by decide) (by decide) e0 e3 ht r0 x0 (by first | exact xl | (rw [s2]; exact xl)) ?_
  refine hL_arg6 (n := 6) rfl rfl rfl rfl rfl (by decide) (by decide) (by decide) e0 e3 ht r0 x0 (by first | exact xl | (rw [s2]; exact xl)) ?_
  refine hL_bool rfl rfl rfl rfl ?_
  generalize hk1 : h_i h (α 0) (x.toInt + 1).toNat = xk1
  generalize hk2 : h_i h (α 0) (x.toInt + 2).toNat = xk2
  generalize hk3 : h_i h (α 0) (x.toInt + 3).toNat = xk3
  generalize hk4 : h_i h (α 0) (x.toInt + 4).toNat = xk4
  generalize hk5 : h_i h (α 0) (x.toInt + 5).toNat = xk5
  generalize hk6 : h_i h (α 0) (x.toInt + 6).toNat = xk6
  refine hM_iv (MX.start (W := []) ht r1) (by decide) rfl rfl (by decide) (as := [.int xk1, .int xk2, .int xk3, .int xk4, .int xk5, .int (bz xk6)]) (r := []) rfl rfl (by decide +kernel) rfl (by decide +kernel) rfl rfl rfl rfl rfl ?_
  rw [m16]
  refine c_fwould hC ht n1 n2 n15 (bz_b xk6) (fun ρ2 h2 z f t2 m1 m2 m15 qz => ?_)
  show HJ 0 1262 lv [.int z] h2 Q
  have keep : ∀ t, c_PT t ρ h → d_no (c_dep t) c_m168.2.1 = true → c_PT t ρ2 h2 := fun t k d => c_PTx t _ _ _ h h2 ht f d k
  · skip
    obtain ⟨s1, s2, s3⟩ := sc_fr ht f r0 (by decide +kernel)
    have r2' : ρ2 (α 2) = 49 := (f.2.1 _ (by rw [r2]; decide)).trans r2
    have h16' : ρ2 16 = 6 := (f.2.1 16 (by rw [h16]; decide)).trans h16
    have um2 : t_um ρ2 := fun m m' e e' => um m m' (fq_m f ht (D := [(49, 1002)]) (by decide +kernel) (by decide) (List.mem_singleton.mpr rfl) e).1 (fq_m f ht (D := [(49, 1002)]) (by decide +kernel) (by decide) (List.mem_singleton.mpr rfl) e').1
    have fN2 : ρ2 (h_r h 16 0) = 7 := (f.2.1 _ (by rw [fN]; decide)).trans fN
    refine hI_pop rfl rfl rfl ?_
    refine hI_al (k := 2) rfl e2 rfl ?_
    refine hL_arg (n := 1) rfl rfl rfl rfl rfl (by decide) (by decide) (by decide) e0 e3 t2 s1 x0 (by first | exact xl | (rw [s2]; exact xl)) ?_
    refine hL_arg (n := 2) rfl rfl rfl rfl rfl (by decide) (by decide) (by decide) e0 e3 t2 s1 x0 (by first | exact xl | (rw [s2]; exact xl)) ?_
    refine hL_arg (n := 3) rfl rfl rfl rfl rfl (by decide) (by decide) (by decide) e0 e3 t2 s1 x0 (by first | exact xl | (rw [s2]; exact xl)) ?_
    refine hL_arg (n := 4) rfl rfl rfl rfl rfl (by decide) (by decide) (by decide) e0 e3 t2 s1 x0 (by first | exact xl | (rw [s2]; exact xl)) ?_
    refine hL_arg (n := 5) rfl rfl rfl rfl rfl (by decide) (by decide) (by decide) e0 e3 t2 s1 x0 (by first | exact xl | (rw [s2]; exact xl)) ?_
    refine hL_arg6 (n := 6) rfl rfl rfl rfl rfl (by decide) (by decide) (by decide) e0 e3 t2 s1 x0 (by first | exact xl | (rw [s2]; exact xl)) ?_
    refine hL_bool rfl rfl rfl rfl ?_
    rw [s3, s3, s3, s3, s3, s3, hk1, hk2, hk3, hk4, hk5, hk6]
    refine hM_iv (MX.start (W := []) t2 r2') (by decide) rfl rfl (by decide) (as := [.int xk1, .int xk2, .int xk3, .int xk4, .int xk5, .int (bz xk6)]) (r := []) rfl rfl (by decide +kernel) rfl (by decide +kernel) rfl rfl rfl rfl rfl ?_
    refine c_k264 (hC.x f) t2 rfl rfl rfl rfl rfl rfl rfl r2' (bz_b xk6) (keep 7 n7 (by decide +kernel)) (fun ρ3 h3 y3 y f3 t3 _ _ m7 => ?_)
    show HJ 0 1306 lv [.int y] h3 Q
    · skip
      refine hI_pop rfl rfl rfl ?_
      refine hI_go (pc' := 2036) rfl (by decide) ?_
      exact fin ρ3 h3 ((f.mono (by decide +kernel)).trans (f3.mono (by decide +kernel))) t3 (c_PTx 1 _ _ _ h2 h3 t2 f3 (by decide +kernel) m1) (c_PTx 2 _ _ _ h2 h3 t2 f3 (by decide +kernel) m2) m7 (c_PTx 10 _ _ _ h2 h3 t2 f3 (by decide +kernel) (keep 10 n10 (by decide +kernel))) (c_PTx 12 _ _ _ h2 h3 t2 f3 (by decide +kernel) (keep 12 n12 (by decide +kernel))) (c_PTx 13 _ _ _ h2 h3 t2 f3 (by decide +kernel) (keep 13 n13 (by decide +kernel))) (c_PTx 14 _ _ _ h2 h3 t2 f3 (by decide +kernel) (keep 14 n14 (by decide +kernel))) (c_PTx 15 _ _ _ h2 h3 t2 f3 (by decide +kernel) m15)
set_option maxRecDepth 100000 in
set_option maxHeartbeats 1000000 in
theorem case_22 : d_hand c_sp c_CC c_PT 0 c_m0 c_lcuts c_h22 := fun ρ K KA lv h σ α Q hC ht hw hT go => by
  obtain ⟨⟨e0, r0⟩, ⟨e1, r1⟩, ⟨e2, r2⟩, x, e3, qx, x0, x5, xl⟩ := lc_in hw
  have n1 := hT 1 (by decide)
  have n2 := hT 2 (by decide)
  have n7 := hT 7 (by decide)
  have n10 := hT 10 (by decide)
  have n12 := hT 12 (by decide)
  have n13 := hT 13 (by decide)
  have n14 := hT 14 (by decide)
  have n15 := hT 15 (by decide)
  have m16 : α 1 = 16 := n2.1.2.2.2.2.2.1 _ r1
  have h16 := n10.1
  have um := n10.2.1
  obtain ⟨rN, rI⟩ := n12.2.2 (α 2) r2
  have fN := nw_ob ht h16
  have fin : ∀ (ρ' : Nat → Nat) (h' : MH), FQ ρ ρ' c_m0.2.1 h h' → TH c_sp ρ' h' → c_PT 1 ρ' h' → c_PT 2 ρ' h' → c_PT 7 ρ' h' → c_PT 10 ρ' h' → c_PT 12 ρ' h' → c_PT 13 ρ' h' → c_PT 14 ρ' h' → c_PT 15 ρ' h' → HJ 0 2036 lv [] h' Q := fun ρ' h' f t a1 a2 a7 a10 a12 a13 a14 a15 => go c_hb hb_mem lv h' ρ' σ α f t (lc_out hw ht f) (by show 0 ≤ -3 * σ 3 + 0 + 2999; omega) (by show -3 * σ 3 + 0 + 2999 < -3 * σ 3 + 0 + 3000; omega) (t_7 a1 a2 a7 a10 a12 a13 a14 a15)
  show HJ 0 1310 lv [] h Q
  refine hI_al (k := 1) rfl e1 rfl ?_
  refine hL_arg (n := 1) rfl rfl rfl rfl rfl (by decide) (by decide) (by decide) e0 e3 ht r0 x0 (by first | exact xl | (rw [s2]; exact xl)) ?_
  refine hL_arg (n := 2) rfl rfl rfl rfl rfl (by decide) (by decide) (by decide) e0 e3 ht r0 x0 (by first | exact xl | (rw [s2]; exact xl)) ?_
  refine hL_hi rfl rfl rfl ?_
  refine hL_arg (n := 3) rfl rfl rfl rfl rfl (by decide) (by decide) (by decide) e0 e3 ht r0 x0 (by first | exact xl | (rw [s2]; exact xl)) ?_
  refine hL_lo rfl rfl rfl rfl ?_
  refine hL_arg (n := 4) rfl rfl rfl rfl rfl (by decide) (by decide) (by decide) e0 e3 ht r0 x0 (by first | exact xl | (rw [s2]; exact xl)) ?_
  generalize hk1 : h_i h (α 0) (x.toInt + 1).toNat = xk1
  generalize hk2 : h_i h (α 0) (x.toInt + 2).toNat = xk2
  generalize hk3 : h_i h (α 0) (x.toInt + 3).toNat = xk3
  generalize hk4 : h_i h (α 0) (x.toInt + 4).toNat = xk4
  refine hM_iv (MX.start (W := []) ht r1) (by decide) rfl rfl (by decide) (as := [.int xk1, .long (jz xk2 xk3), .int xk4]) (r := []) rfl rfl (by decide +kernel) rfl (by decide +kernel) rfl rfl rfl rfl rfl ?_
  rw [m16]
  refine c_ffold hC ht n1 n2 n15 (fun ρ2 h2 z f t2 m1 m2 m15 => ?_)
  show HJ 0 1344 lv [.int z] h2 Q
  have keep : ∀ t, c_PT t ρ h → d_no (c_dep t) c_m170.2.1 = true → c_PT t ρ2 h2 := fun t k d => c_PTx t _ _ _ h h2 ht f d k
  · skip
    obtain ⟨s1, s2, s3⟩ := sc_fr ht f r0 (by decide +kernel)
    have r2' : ρ2 (α 2) = 49 := (f.2.1 _ (by rw [r2]; decide)).trans r2
    have h16' : ρ2 16 = 6 := (f.2.1 16 (by rw [h16]; decide)).trans h16
    have um2 : t_um ρ2 := fun m m' e e' => um m m' (fq_m f ht (D := [(49, 1002)]) (by decide +kernel) (by decide) (List.mem_singleton.mpr rfl) e).1 (fq_m f ht (D := [(49, 1002)]) (by decide +kernel) (by decide) (List.mem_singleton.mpr rfl) e').1
    have fN2 : ρ2 (h_r h 16 0) = 7 := (f.2.1 _ (by rw [fN]; decide)).trans fN
    refine hI_pop rfl rfl rfl ?_
    refine hI_al (k := 2) rfl e2 rfl ?_
    refine hL_arg (n := 1) rfl rfl rfl rfl rfl (by decide) (by decide) (by decide) e0 e3 t2 s1 x0 (by first | exact xl | (rw [s2]; exact xl)) ?_
    refine hL_arg (n := 2) rfl rfl rfl rfl rfl (by decide) (by decide) (by decide) e0 e3 t2 s1 x0 (by first | exact xl | (rw [s2]; exact xl)) ?_
    refine hL_hi rfl rfl rfl ?_
    refine hL_arg (n := 3) rfl rfl rfl rfl rfl (by decide) (by decide) (by decide) e0 e3 t2 s1 x0 (by first | exact xl | (rw [s2]; exact xl)) ?_
    refine hL_lo rfl rfl rfl rfl ?_
    refine hL_arg (n := 4) rfl rfl rfl rfl rfl (by decide) (by decide) (by decide) e0 e3 t2 s1 x0 (by first | exact xl | (rw [s2]; exact xl)) ?_
    rw [s3, s3, s3, s3, hk1, hk2, hk3, hk4]
    refine hM_iv (MX.start (W := []) t2 r2') (by decide) rfl rfl (by decide) (as := [.int xk1, .long (jz xk2 xk3), .int xk4]) (r := []) rfl rfl (by decide +kernel) rfl (by decide +kernel) rfl rfl rfl rfl rfl ?_
    refine c_k265 (hC.x f) t2 rfl rfl rfl rfl r2' (keep 7 n7 (by decide +kernel)) (fun ρ3 h3 y3 y f3 t3 _ _ m7 => ?_)
    show HJ 0 1379 lv [.int y] h3 Q
    · skip
      refine hI_pop rfl rfl rfl ?_
      refine hI_go (pc' := 2036) rfl (by decide) ?_
      exact fin ρ3 h3 ((f.mono (by decide +kernel)).trans (f3.mono (by decide +kernel))) t3 (c_PTx 1 _ _ _ h2 h3 t2 f3 (by decide +kernel) m1) (c_PTx 2 _ _ _ h2 h3 t2 f3 (by decide +kernel) m2) m7 (c_PTx 10 _ _ _ h2 h3 t2 f3 (by decide +kernel) (keep 10 n10 (by decide +kernel))) (c_PTx 12 _ _ _ h2 h3 t2 f3 (by decide +kernel) (keep 12 n12 (by decide +kernel))) (c_PTx 13 _ _ _ h2 h3 t2 f3 (by decide +kernel) (keep 13 n13 (by decide +kernel))) (c_PTx 14 _ _ _ h2 h3 t2 f3 (by decide +kernel) (keep 14 n14 (by decide +kernel))) (c_PTx 15 _ _ _ h2 h3 t2 f3 (by decide +kernel) m15)
set_option maxRecDepth 100000 in
set_option maxHeartbeats 1000000 in
theorem case_28 : d_hand c_sp c_CC c_PT 0 c_m0 c_lcuts c_h28 := fun ρ K KA lv h σ α Q hC ht hw hT go => by
  obtain ⟨⟨e0, r0⟩, ⟨e1, r1⟩, ⟨e2, r2⟩, x, e3, qx, x0, x5, xl⟩ := lc_in hw
  have n1 := hT 1 (by decide)
  have n2 := hT 2 (by decide)
  have n7 := hT 7 (by decide)
  have n10 := hT 10 (by decide)
  have n12 := hT 12 (by decide)
  have n13 := hT 13 (by decide)
  have n14 := hT 14 (by decide)
  have n15 := hT 15 (by decide)
  have m16 : α 1 = 16 := n2.1.2.2.2.2.2.1 _ r1
  have h16 := n10.1
  have um := n10.2.1
  obtain ⟨rN, rI⟩ := n12.2.2 (α 2) r2
  have fN := nw_ob ht h16
  have fin : ∀ (ρ' : Nat → Nat) (h' : MH), FQ ρ ρ' c_m0.2.1 h h' → TH c_sp ρ' h' → c_PT 1 ρ' h' → c_PT 2 ρ' h' → c_PT 7 ρ' h' → c_PT 10 ρ' h' → c_PT 12 ρ' h' → c_PT 13 ρ' h' → c_PT 14 ρ' h' → c_PT 15 ρ' h' → HJ 0 2036 lv [] h' Q := fun ρ' h' f t a1 a2 a7 a10 a12 a13 a14 a15 => go c_hb hb_mem lv h' ρ' σ α f t (lc_out hw ht f) (by show 0 ≤ -3 * σ 3 + 0 + 2999; omega) (by show -3 * σ 3 + 0 + 2999 < -3 * σ 3 + 0 + 3000; omega) (t_7 a1 a2 a7 a10 a12 a13 a14 a15)
  show HJ 0 1600 lv [] h Q
  refine hI_al (k := 1) rfl e1 rfl ?_
  refine hL_arg (n := 1) rfl rfl rfl rfl rfl (by decide) (by decide) (by decide) e0 e3 ht r0 x0 (by first | exact xl | (rw [s2]; exact xl)) ?_
  refine hL_arg (n := 2) rfl rfl rfl rfl rfl (by decide) (by decide) (by decide) e0 e3 ht r0 x0 (by first | exact xl | (rw [s2]; exact xl)) ?_
  refine hL_arg (n := 3) rfl rfl rfl rfl rfl (by decide) (by decide) (by decide) e0 e3 ht r0 x0 (by first | exact xl | (rw [s2]; exact xl)) ?_
  refine hL_arg (n := 4) rfl rfl rfl rfl rfl (by decide) (by decide) (by decide) e0 e3 ht r0 x0 (by first | exact xl | (rw [s2]; exact xl)) ?_
  refine hL_arg (n := 5) rfl rfl rfl rfl rfl (by decide) (by decide) (by decide) e0 e3 ht r0 x0 (by first | exact xl | (rw [s2]; exact xl)) ?_
  generalize hk1 : h_i h (α 0) (x.toInt + 1).toNat = xk1
  generalize hk2 : h_i h (α 0) (x.toInt + 2).toNat = xk2
  generalize hk3 : h_i h (α 0) (x.toInt + 3).toNat = xk3
  generalize hk4 : h_i h (α 0) (x.toInt + 4).toNat = xk4
  generalize hk5 : h_i h (α 0) (x.toInt + 5).toNat = xk5
  refine hM_iv (MX.start (W := []) ht r1) (by decide) rfl rfl (by decide) (as := [.int xk1, .int xk2, .int xk3, .int xk4, .int xk5]) (r := []) rfl rfl (by decide +kernel) rfl (by decide +kernel) rfl rfl rfl rfl rfl ?_
  rw [m16]
  refine c_fdrawn hC ht n1 n2 n15 (fun ρ2 h2 z f t2 m1 m2 m15 => ?_)
  show HJ 0 1629 lv [.int z] h2 Q
  have keep : ∀ t, c_PT t ρ h → d_no (c_dep t) c_m178.2.1 = true → c_PT t ρ2 h2 := fun t k d => c_PTx t _ _ _ h h2 ht f d k
  · skip
    obtain ⟨s1, s2, s3⟩ := sc_fr ht f r0 (by decide +kernel)
    have r2' : ρ2 (α 2) = 49 := (f.2.1 _ (by rw [r2]; decide)).trans r2
    have h16' : ρ2 16 = 6 := (f.2.1 16 (by rw [h16]; decide)).trans h16
    have um2 : t_um ρ2 := fun m m' e e' => um m m' (fq_m f ht (D := [(49, 1002)]) (by decide +kernel) (by decide) (List.mem_singleton.mpr rfl) e).1 (fq_m f ht (D := [(49, 1002)]) (by decide +kernel) (by decide) (List.mem_singleton.mpr rfl) e').1
    have fN2 : ρ2 (h_r h 16 0) = 7 := (f.2.1 _ (by rw [fN]; decide)).trans fN
    refine hI_pop rfl rfl rfl ?_
    refine hI_al (k := 2) rfl e2 rfl ?_
    refine hL_arg (n := 1) rfl rfl rfl rfl rfl (by decide) (by decide) (by decide) e0 e3 t2 s1 x0 (by first | exact xl | (rw [s2]; exact xl)) ?_
    refine hL_arg (n := 2) rfl rfl rfl rfl rfl (by decide) (by decide) (by decide) e0 e3 t2 s1 x0 (by first | exact xl | (rw [s2]; exact xl)) ?_
    refine hL_arg (n := 3) rfl rfl rfl rfl rfl (by decide) (by decide) (by decide) e0 e3 t2 s1 x0 (by first | exact xl | (rw [s2]; exact xl)) ?_
    refine hL_arg (n := 4) rfl rfl rfl rfl rfl (by decide) (by decide) (by decide) e0 e3 t2 s1 x0 (by first | exact xl | (rw [s2]; exact xl)) ?_
    refine hL_arg (n := 5) rfl rfl rfl rfl rfl (by decide) (by decide) (by decide) e0 e3 t2 s1 x0 (by first | exact xl | (rw [s2]; exact xl)) ?_
    rw [s3, s3, s3, s3, s3, hk1, hk2, hk3, hk4, hk5]
    refine hM_iv (MX.start (W := []) t2 r2') (by decide) rfl rfl (by decide) (as := [.int xk1, .int xk2, .int xk3, .int xk4, .int xk5]) (r := []) rfl rfl (by decide +kernel) rfl (by decide +kernel) rfl rfl rfl rfl rfl ?_
    refine c_k275 (hC.x f) t2 rfl rfl rfl rfl rfl rfl r2' (keep 7 n7 (by decide +kernel)) (fun ρ3 h3 y3 y f3 t3 _ _ m7 => ?_)
    show HJ 0 1659 lv [.int y] h3 Q
    · skip
      refine hI_pop rfl rfl rfl ?_
      refine hI_go (pc' := 2036) rfl (by decide) ?_
      exact fin ρ3 h3 ((f.mono (by decide +kernel)).trans (f3.mono (by decide +kernel))) t3 (c_PTx 1 _ _ _ h2 h3 t2 f3 (by decide +kernel) m1) (c_PTx 2 _ _ _ h2 h3 t2 f3 (by decide +kernel) m2) m7 (c_PTx 10 _ _ _ h2 h3 t2 f3 (by decide +kernel) (keep 10 n10 (by decide +kernel))) (c_PTx 12 _ _ _ h2 h3 t2 f3 (by decide +kernel) (keep 12 n12 (by decide +kernel))) (c_PTx 13 _ _ _ h2 h3 t2 f3 (by decide +kernel) (keep 13 n13 (by decide +kernel))) (c_PTx 14 _ _ _ h2 h3 t2 f3 (by decide +kernel) (keep 14 n14 (by decide +kernel))) (c_PTx 15 _ _ _ h2 h3 t2 f3 (by decide +kernel) m15)
-- bits of a long
def bs (x : Int64) (v : Nat) : Bool := x.toBitVec.getLsbD v
theorem bs_has {x : Int64} {v : Nat} (hv : v ≤ 40) : ((x >>> ((Int32.ofInt (v : Int)).toInt64 &&& 63)) &&& (Int64.ofNat (1 : Fin 2).val) = Int64.ofNat (1 : Fin 2).val) ↔ bs x v = true := by
  have e2 := z_shF ⟨v, by omega⟩
  dsimp only at e2
  have e3 : (x >>> ((Int32.ofInt (v : Int)).toInt64 &&& 63)).toBitVec = x.toBitVec.sshiftRight v := by
    rw [Int64.toBitVec_shiftRight]
    show x.toBitVec.sshiftRight' (((Int32.ofInt (v : Int)).toInt64 &&& 63).toBitVec.smod (BitVec.ofNat 64 64)) = _
    rw [e2]
    show x.toBitVec.sshiftRight (BitVec.ofNat 64 v).toNat = _
    rw [BitVec.toNat_ofNat, Nat.mod_eq_of_lt (by omega)]
  constructor
  · intro h
    have q := congrArg (fun z : Int64 => z.toBitVec.getLsbD 0) h
    rw [Int64.toBitVec_and, e3] at q
    have q : (x.toBitVec.sshiftRight v &&& 1#64).getLsbD 0 = (1#64).getLsbD 0 := q
    rw [BitVec.getLsbD_and, BitVec.getLsbD_one, BitVec.getLsbD_sshiftRight] at q
    show x.toBitVec.getLsbD v = true
    simpa [show v < 64 by omega] using q
  · intro hb
    have hb : x.toBitVec.getLsbD v = true := hb
    apply Int64.toBitVec_inj.1
    rw [Int64.toBitVec_and, e3]
    show x.toBitVec.sshiftRight v &&& 1#64 = 1#64
    apply BitVec.eq_of_getLsbD_eq
    intro i hi
    rw [BitVec.getLsbD_and, BitVec.getLsbD_one]
    by_cases e : i = 0
    · subst e
      rw [BitVec.getLsbD_sshiftRight]
      simp [hb, show v < 64 by omega]
    · simp [e]
theorem bt_B {v : Nat} (hv : v ≤ 40) : (bt (v : Int)).toBitVec = (1#64 <<< v) := z_bitF ⟨v, by omega⟩
theorem bs_nz {x : Int64} {v : Nat} (hv : v ≤ 40) : x &&& bt (v : Int) = 0 ↔ bs x v = false := by
  constructor
  · intro h
    have q := congrArg (fun z : Int64 => z.toBitVec.getLsbD v) h
    rw [Int64.toBitVec_and, bt_B hv] at q
    have q : (x.toBitVec &&& 1#64 <<< v).getLsbD v = (0#64).getLsbD v := q
    rw [BitVec.getLsbD_and, BitVec.getLsbD_shiftLeft, BitVec.getLsbD_one, BitVec.getLsbD_zero] at q
    show x.toBitVec.getLsbD v = false
    simpa [show v < 64 by omega] using q
  · intro hb
    have hb : x.toBitVec.getLsbD v = false := hb
    apply Int64.toBitVec_inj.1
    rw [Int64.toBitVec_and, bt_B hv]
    show x.toBitVec &&& (1#64 <<< v) = 0#64
    apply BitVec.eq_of_getLsbD_eq
    intro i hi
    rw [BitVec.getLsbD_and, BitVec.getLsbD_shiftLeft, BitVec.getLsbD_one, BitVec.getLsbD_zero]
    by_cases e : i = v
    · subst e
      simp [hb]
    · by_cases e2 : i < v
      · simp [e2]
      · simp [show i - v ≠ 0 by omega]
theorem bs_or (x y : Int64) (v : Nat) : bs (x ||| y) v = (bs x v || bs y v) := by
  unfold bs
  rw [Int64.toBitVec_or, BitVec.getLsbD_or]
theorem bs_and (x y : Int64) (v : Nat) : bs (x &&& y) v = (bs x v && bs y v) := by
  unfold bs
  rw [Int64.toBitVec_and, BitVec.getLsbD_and]
theorem bs_bt {v w : Nat} (hv : v ≤ 40) (hw : w < 64) : bs (bt (v : Int)) w = decide (w = v) := by
  unfold bs
  rw [bt_B hv, BitVec.getLsbD_shiftLeft, BitVec.getLsbD_one]
  by_cases e : w = v
  · subst e
    simp [hw]
  · by_cases e2 : w < v
    · simp [e2, e]
    · simp [show w - v ≠ 0 by omega, e]
theorem bs_0 (v : Nat) : bs (Int64.ofNat (0 : Fin 2).val) v = false := by
  show (0#64).getLsbD v = false
  exact BitVec.getLsbD_zero
-- from which versions: one row alone
theorem fro_U {Y : RYt} {n : Nat} {L L' : Nat → Int64} (o : ry_ok Y n) (a : fro_of L Y) (b : fro_of L' Y) : ∀ v : Nat, v < ry_v Y → L v = L' v := by
  intro v
  induction v using Nat.strongRecOn with
  | ind v ih =>
    intro hv
    rw [a v hv, b v hv]
    obtain ⟨⟨a0, a1⟩, b0, b1⟩ := o.2.2 v hv
    have f : ∀ p : Int, -1 ≤ p → p < (v : Int) → fo_of L p = fo_of L' p := fun p p0 p1 => by
      unfold fo_of
      split
      · exact ih _ (by omega) (by omega)
      · rfl
    rw [f _ a0 a1, f _ b0 b1]
theorem fro_B {Y : RYt} {n : Nat} {L : Nat → Int64} (o : ry_ok Y n) (n40 : n ≤ 40) (a : fro_of L Y) {w : Nat} (hw : w < 64) : ∀ v : Nat, v < ry_v Y → v < w → bs (L v) w = false := by
  intro v
  have vn := o.2.1.1
  induction v using Nat.strongRecOn with
  | ind v ih =>
    intro hv vw
    obtain ⟨⟨a0, a1⟩, b0, b1⟩ := o.2.2 v hv
    have f : ∀ p : Int, -1 ≤ p → p < (v : Int) → bs (fo_of L p) w = false := fun p p0 p1 => by
      unfold fo_of
      split
      · exact ih _ (by omega) (by omega) (by omega)
      · exact bs_0 w
    rw [a v hv, bs_or, bs_or, bs_bt (by omega) hw, f _ a0 a1, f _ b0 b1, decide_eq_false (by omega)]
    rfl
-- a row laid, and what is told of it
def lay_ok (V5 : Int) (V6 : Nat → Int) (r : Int) (Y : RYt) : Prop := 0 ≤ r → r < V5 → (∃ n, n ≤ 40 ∧ ry_ok Y n) ∧ (∀ F' V', ly_E (fun j => V6 (161 * r.toNat + 1 + j)) (V6 (161 * r).toNat).toNat F' V' → ry_of (m_u F' 19 0) V' (ry_z Y)) ∧ ∀ L, ly_H (fun j => V6 (161 * r.toNat + 1 + j)) (V6 (161 * r).toNat).toNat L (V6 (161 * r).toNat).toNat → fro_of L Y
def laid (Y : RYt) (F : Nat → Int) (V : Nat → Nat → Int) (G : Nat → Nat → Int64) : Prop := (∃ n, n ≤ 40 ∧ ry_ok Y n) ∧ ry_of (m_u F 19 0) V (ry_z Y) ∧ fro_of (G 41) Y ∧ g_ly F V 40
theorem laid_v {Y : RYt} {F : Nat → Int} {V : Nat → Nat → Int} {G : Nat → Nat → Int64} (l : laid Y F V G) : F 35 = (ry_v Y : Int) ∧ 1 ≤ ry_v Y ∧ ry_v Y ≤ 41 := by
  obtain ⟨⟨n, n40, o⟩, y, -, -⟩ := l
  have y3 : m_u F 19 0 35 = (ry_v Y : Int) := y.2.2.1
  rw [m_uN _ _ _ _ (by decide)] at y3
  have vn := o.2.1.1
  exact ⟨y3, by omega, by omega⟩
theorem ly_acG {ρ : Nat → Nat} {h : MH} {m : Nat} {VV : Nat → Nat → Int} {r : Int} (ht : TH c_sp ρ h) (n15 : c_PT 15 ρ h) (rN : td_rel h (h_r h 16 0) m 0) (vq5 : VV 5 0 = q_vm h m 5 0) (vq6 : ∀ j, VV 6 j = q_vm h m 6 j) : lay_ok (VV 5 0) (VV 6) r (ac_Y h (q_ac h (h_r h 16 0) r.toNat)) := fun r0 r1 => by
  obtain ⟨⟨-, -, -, f5⟩, -, ra⟩ := rN
  have fN := nw_ob ht n15.1
  have b5 := (td_bdN ht fN).2.1
  have e5 : q_fd h (h_r h 16 0) 5 = VV 5 0 := f5.trans vq5.symm
  have rr : (r.toNat : Int) < q_fd h (h_r h 16 0) 5 := by omega
  have oc := ((td_obN ht fN).2.2 r.toNat (by omega)).1
  have c := (t_spec ht (by decide) (rfl : c_sp[12]? = some _) oc).2.2.2 2 (.inl (0, 40)) rfl (fun z => by cases z)
  have c0 : 0 ≤ q_fd h (q_ac h (h_r h 16 0) r.toNat) 2 ∧ q_fd h (q_ac h (h_r h 16 0) r.toNat) 2 ≤ 40 := c
  have av := n15.2.2.2.1 r.toNat rr
  obtain ⟨w1, w2⟩ := ac_ref (ra r.toNat rr) c0.1 av
  have eU : ∀ j, VV 6 (161 * r.toNat + 1 + j) = q_vm h m 6 (644 * 0 + 161 * r.toNat + 1 + j) := fun j => by
    rw [show 644 * 0 + 161 * r.toNat + 1 + j = 161 * r.toNat + 1 + j by omega]
    exact vq6 _
  have eB : VV 6 (161 * r).toNat = q_vm h m 6 (644 * 0 + 161 * r.toNat) := by
    rw [show 644 * 0 + 161 * r.toNat = (161 * r).toNat by omega]
    exact vq6 _
  refine ⟨?_, fun F' V' b3 => ?_, fun L b3 => ?_⟩
  · obtain ⟨k, k1, k2, -⟩ := ry_okR (ac_N h (q_ac h (h_r h 16 0) r.toNat)) (fun k hk => av k (by unfold ac_N at hk; omega))
    have : ac_N h (q_ac h (h_r h 16 0) r.toNat) ≤ 40 := by
      unfold ac_N
      omega
    exact ⟨k, by omega, k2⟩
  · unfold ly_E at b3
    simp only [eU, eB] at b3
    have b4 := b3 (fun q hq => w2 q hq)
    rw [w1] at b4
    exact b4
  · unfold ly_H at b3
    simp only [eU, eB] at b3
    have b4 := (b3 (fun q hq => w2 q hq)).2
    rw [w1] at b4
    exact b4
section
variable {lv : List (Nat × Value)} {Q : Option Value → MH → Prop} {W : List (Nat × Nat)} {ρ : Nat → Nat} {m : Nat} {A : Nat → Nat} {h0 h : MH} {F : Nat → Int} {V : Nat → Nat → Int} {G : Nat → Nat → Int64}
theorem c_layY {Y : RYt} {r : Int} {xr : Int32} (M : MX 49 W ρ m A h0 h F V G) (b0_ : m_lk lv 0 = some (.ref m)) (b1_ : m_lk lv 1 = some (.int xr)) (hw : d_sub g_la W = true) (qr : xr.toInt = r) (rw_ : p_rw (V 6)) (ok : lay_ok (V 5 0) (V 6) r Y) (g : ∀ (x : Int32) (h' : MH) (F' : Nat → Int) (V' : Nat → Nat → Int) (G' : Nat → Nat → Int64), MX 49 W ρ m A h0 h' F' V' G' → ((x.toInt = 0 ∧ ¬ (0 ≤ r ∧ r < V 5 0)) ∨ (x.toInt = 1 ∧ (0 ≤ r ∧ r < V 5 0) ∧ laid Y F' V' G')) → Q (some (.int x)) h') : HJ 201 0 lv [] h Q := by
  refine c_layG M b0_ b1_ hw qr rw_ (fun x h' F' V' G' M' hx => g x h' F' V' G' M' ?_)
  rcases hx with hx | ⟨q, I, r0, r1, e1, e2⟩
  · exact Or.inl hx
  · obtain ⟨o, k1, k2⟩ := ok r0 r1
    exact Or.inr ⟨q, ⟨r0, r1⟩, o, k1 F' V' e1, k2 _ e2, I⟩
theorem s_lo0 {r v : Int} (M : MX 49 W ρ m A h0 h F V G) (e0 : m_lk lv 0 = some (.ref m)) {lx1 : Int32} (e1 : m_lk lv 1 = some (.int lx1)) (lq1 : lx1.toInt = r) {lx2 : Int32} (e2 : m_lk lv 2 = some (.int lx2)) (lq2 : lx2.toInt = v) 
    (g0 : HJ 201 0 (lv_args 0 [.ref m, .int lx1]) [] h (fun v h' => HJ 228 5 lv (v.toList ++ []) h' Q))
    : HJ 228 0 lv [] h Q := by
  refine hI_al (k := 0) rfl e0 rfl ?_ -- 0
  refine hI_il (k := 1) rfl e1 rfl ?_ -- 1
  refine hM_iv M (by decide) rfl rfl (by decide) (as := [.int lx1]) (r := []) rfl rfl (by decide +kernel) rfl (by decide +kernel) rfl rfl rfl rfl rfl ?_ -- 2
  exact g0 
theorem s_lo5 {r v z : Int} (M : MX 49 W ρ m A h0 h F V G) (e0 : m_lk lv 0 = some (.ref m)) {lx1 : Int32} (e1 : m_lk lv 1 = some (.int lx1)) (lq1 : lx1.toInt = r) {lx2 : Int32} (e2 : m_lk lv 2 = some (.int lx2)) (lq2 : lx2.toInt = v) {sx0 : Int32} (sq0 : sx0.toInt = z) 
    (g0 : ∀ x1 : Int32, x1.toInt = 0 → z = 0 → Q (some (.int x1)) h)
    (g1 : z ≠ 0 → HJ 205 0 (lv_args 0 [.ref m, .int lx2]) [] h (fun v h' => HJ 228 13 lv (v.toList ++ []) h' Q))
    : HJ 228 5 lv [.int sx0] h Q := by
  refine hM_zeq (off := 15) (t := 20) rfl sq0 (by decide) rfl (fun c5 => ?_) (fun c5 => ?_) -- 5
  · refine hM_ic (n := 0) rfl (by decide) rfl (fun x1 q1 => ?_) -- 20
    refine hM_rb rfl rfl q1 (by omega) (by omega) ?_ -- 21
    exact g0 x1 q1 c5
  · refine hI_al (k := 0) rfl e0 rfl ?_ -- 8
    refine hI_il (k := 2) rfl e2 rfl ?_ -- 9
    refine hM_iv M (by decide) rfl rfl (by decide) (as := [.int lx2]) (r := []) rfl rfl (by decide +kernel) rfl (by decide +kernel) rfl rfl rfl rfl rfl ?_ -- 10
    exact g1 c5
theorem s_lo13 {z : Int} (M : MX 49 W ρ m A h0 h F V G) {sx0 : Int32} (sq0 : sx0.toInt = z) 
    (g0 : ∀ x1 : Int32, x1.toInt = 0 → z = 0 → Q (some (.int x1)) h)
    (g1 : ∀ x2 : Int32, x2.toInt = 1 → z ≠ 0 → Q (some (.int x2)) h)
    : HJ 228 13 lv [.int sx0] h Q := by
  refine hM_zeq (off := 7) (t := 20) rfl sq0 (by decide) rfl (fun c13 => ?_) (fun c13 => ?_) -- 13
  · refine hM_ic (n := 0) rfl (by decide) rfl (fun x1 q1 => ?_) -- 20
    refine hM_rb rfl rfl q1 (by omega) (by omega) ?_ -- 21
    exact g0 x1 q1 c13
  · refine hM_ic (n := 1) rfl (by decide) rfl (fun x2 q2 => ?_) -- 16
    refine hI_go (pc' := 21) (off := 4) rfl (by decide) ?_ -- 17
    refine hM_rb rfl rfl q2 (by omega) (by omega) ?_ -- 21
    exact g1 x2 q2 c13
theorem c_layOY {Y : RYt} {r v : Int} {xr xv : Int32} (M : MX 49 W ρ m A h0 h F V G) (hw : d_sub g_la W = true) (qr : xr.toInt = r) (qv : xv.toInt = v) (rw_ : p_rw (V 6)) (ok : lay_ok (V 5 0) (V 6) r Y) (g : ∀ (x : Int32) (h' : MH) (F' : Nat → Int) (V' : Nat → Nat → Int) (G' : Nat → Nat → Int64), MX 49 W ρ m A h0 h' F' V' G' → ((x.toInt = 0 ∧ ¬ ((0 ≤ r ∧ r < V 5 0) ∧ 0 ≤ v ∧ v < (ry_v Y : Int))) ∨ (x.toInt = 1 ∧ ((0 ≤ r ∧ r < V 5 0) ∧ 0 ≤ v ∧ v < (ry_v Y : Int)) ∧ laid Y F' V' G')) → Q (some (.int x)) h') : HJ 228 0 (lv_args 0 [.ref m, .int xr, .int xv]) [] h Q := by
  refine s_lo0 M rfl rfl qr rfl qv (c_layY M rfl rfl hw qr rw_ ok (fun z h2 F2 V2 G2 M2 hz => ?_))
  refine s_lo5 (z := z.toInt) M2 rfl rfl qr rfl qv rfl (fun x q c => g x h2 F2 V2 G2 M2 (Or.inl ⟨q, fun w => ?_⟩)) (fun c5 => ?_)
  · rcases hz with hz | hz
    · exact hz.2 w.1
    · omega
  · obtain ⟨-, rr, l⟩ := hz.resolve_left (fun w => c5 w.1)
    have lv := laid_v l
    refine c_isV M2 qv (fun z2 hz2 => ?_)
    refine s_lo13 (z := z2.toInt) M2 rfl (fun x q c => g x h2 F2 V2 G2 M2 (Or.inl ⟨q, fun w => ?_⟩)) (fun x q c => g x h2 F2 V2 G2 M2 (Or.inr ⟨q, ⟨rr, ?_⟩, l⟩))
    · rcases hz2 with hz2 | hz2 <;> omega
    · rcases hz2 with hz2 | hz2 <;> omega
theorem c_layTY {Y : RYt} {r a b : Int} {xr xa xb : Int32} (M : MX 49 W ρ m A h0 h F V G) (hw : d_sub g_la W = true) (qr : xr.toInt = r) (qa : xa.toInt = a) (qb : xb.toInt = b) (rw_ : p_rw (V 6)) (ok : lay_ok (V 5 0) (V 6) r Y) (g : ∀ (x : Int32) (h' : MH) (F' : Nat → Int) (V' : Nat → Nat → Int) (G' : Nat → Nat → Int64), MX 49 W ρ m A h0 h' F' V' G' → ((x.toInt = 0 ∧ ¬ ((0 ≤ r ∧ r < V 5 0) ∧ (0 ≤ a ∧ a < (ry_v Y : Int)) ∧ 0 ≤ b ∧ b < (ry_v Y : Int))) ∨ (x.toInt = 1 ∧ ((0 ≤ r ∧ r < V 5 0) ∧ (0 ≤ a ∧ a < (ry_v Y : Int)) ∧ 0 ≤ b ∧ b < (ry_v Y : Int)) ∧ laid Y F' V' G')) → Q (some (.int x)) h') : HJ 240 0 (lv_args 0 [.ref m, .int xr, .int xa, .int xb]) [] h Q := by
  refine s_l20 M rfl rfl qr rfl qa rfl qb (c_layY M rfl rfl hw qr rw_ ok (fun z h2 F2 V2 G2 M2 hz => ?_))
  refine s_l25 (z := z.toInt) M2 rfl rfl qr rfl qa rfl qb rfl (fun x q c => g x h2 F2 V2 G2 M2 (Or.inl ⟨q, fun w => ?_⟩)) (fun c5 => ?_)
  · rcases hz with hz | hz
    · exact hz.2 w.1
    · omega
  · obtain ⟨-, rr, l⟩ := hz.resolve_left (fun w => c5 w.1)
    have lv := laid_v l
    refine c_isV M2 qa (fun z2 hz2 => ?_)
    refine s_l213 (z := z2.toInt) M2 rfl rfl qr rfl qa rfl qb rfl (fun x q c => g x h2 F2 V2 G2 M2 (Or.inl ⟨q, fun w => ?_⟩)) (fun c13 => ?_)
    · rcases hz2 with hz2 | hz2 <;> omega
    · obtain ⟨-, a0, a1⟩ := hz2.resolve_right (fun y => c13 y.1)
      refine c_isV M2 qb (fun z3 hz3 => ?_)
      refine s_l221 (z := z3.toInt) M2 rfl (fun x q c => g x h2 F2 V2 G2 M2 (Or.inl ⟨q, fun w => ?_⟩)) (fun x q c => g x h2 F2 V2 G2 M2 (Or.inr ⟨q, ⟨rr, ⟨a0, by omega⟩, ?_⟩, l⟩))
      · rcases hz3 with hz3 | hz3 <;> omega
      · rcases hz3 with hz3 | hz3 <;> omega
end
section
variable {Q : Option Value → MH → Prop} {ρ : Nat → Nat} {h : MH}
-- whether a version comes from another, by the class
theorem k_isf {li : Nat} {v f : Int} {xv xf : Int32} (ok : li_ok h li) (qv : xv.toInt = v) (qf : xf.toInt = f) (v0 : 0 ≤ v) (v1 : v ≤ 40) (f0 : 0 ≤ f) (f1 : f ≤ 40) (g : ∀ x : Int32, x.toInt = (if bs (h_l h (h_r h li 2) v.toNat) f.toNat = true then 1 else 0) → Q (some (.int x)) h) : HJ 131 0 (lv_args 0 [.ref li, .int xv, .int xf]) [] h Q := by
  have M := RX.start h
  refine hI_il (k := 2) rfl rfl rfl ?_
  refine hM_zlt (off := 28) (t := 29) rfl qf (by decide) rfl (fun c => absurd c (by omega)) (fun _ => ?_)
  refine hI_il (k := 2) rfl rfl rfl ?_
  refine hM_bp (n := 41) rfl (by decide) rfl (fun x1 q1 => ?_)
  refine hM_cge (off := 22) (t := 29) rfl qf q1 (by decide) rfl (fun c => absurd c (by omega)) (fun _ => ?_)
  refine hI_al (k := 0) rfl rfl rfl ?_
  refine hI_il (k := 1) rfl rfl rfl ?_
  refine HJ.call (j := 53) (as := [.ref li, .int xv]) (rr := []) (pc' := 15) (m_cR (kc := 1) rfl rfl (by decide +kernel) rfl rfl rfl ⟨rfl, by decide +kernel, by decide +kernel⟩ (by decide) ok.1.2 ok.1.1) (by show 2 ≤ m_lc 53; decide +kernel) ?_
  refine k_fo ok qv ?_
  show HJ 131 15 _ [.long (fo_of (h_l h (h_r h li 2)) v)] h Q
  refine hI_il (k := 2) rfl rfl rfl ?_
  refine hM_is0 (as := [.int xf]) (r := [.long (fo_of (h_l h (h_r h li 2)) v)]) rfl rfl (by decide +kernel) rfl rfl rfl rfl rfl ?_
  refine k_bit M qf ?_
  show HJ 131 19 _ [.long (bt f), .long (fo_of (h_l h (h_r h li 2)) v)] h Q
  refine hI_land rfl rfl ?_
  refine hI_lc (n := 0) rfl rfl ?_
  refine hM_lcmp rfl rfl (fun w qw => ?_)
  have ev : fo_of (h_l h (h_r h li 2)) v = h_l h (h_r h li 2) v.toNat := fo_P v0 (by omega)
  have ef : bt f = bt ((f.toNat : Nat) : Int) := by rw [show ((f.toNat : Nat) : Int) = f by omega]
  have key := bs_nz (x := h_l h (h_r h li 2) v.toNat) (v := f.toNat) (by omega)
  rw [ev, ef] at qw
  refine hM_zeq (off := 7) (t := 29) rfl qw (by decide) rfl (fun c => ?_) (fun c => ?_)
  · have nb : bs (h_l h (h_r h li 2) v.toNat) f.toNat = false := key.mp (lg_0.mp c)
    refine hM_ic (n := 0) rfl (by decide) rfl (fun x q => ?_)
    exact hM_rb rfl rfl q (by omega) (by omega) (g x (by rw [q, nb]; rfl))
  · have nb : bs (h_l h (h_r h li 2) v.toNat) f.toNat = true := by
      cases e : bs (h_l h (h_r h li 2) v.toNat) f.toNat with
      | true => rfl
      | false => exact absurd (lg_0.mpr (key.mpr e)) c
    refine hM_ic (n := 1) rfl (by decide) rfl (fun x q => ?_)
    refine hI_go (pc' := 30) (off := 4) rfl (by decide) ?_
    exact hM_rb rfl rfl q (by omega) (by omega) (g x (by rw [q, nb]; rfl))
end
-- WHO HOLDS WHAT, both sides: counts of nodes by their holders
def ch_n (p : Int64 → Bool) (L : Nat → Int64) : Nat → Nat
  | 0 => 0
  | n + 1 => ch_n p L n + (if p (L n) = true then 1 else 0)
theorem ch_L {p : Int64 → Bool} {L : Nat → Int64} : ∀ n, ch_n p L n ≤ n
  | 0 => Nat.le_refl _
  | n + 1 => by
    have := ch_L (p := p) (L := L) n
    rw [ch_n]
    split <;> omega
theorem ch_C {p q : Int64 → Bool} {L L' : Nat → Int64} : ∀ {n : Nat}, (∀ i, i < n → p (L i) = q (L' i)) → ch_n p L n = ch_n q L' n
  | 0, _ => rfl
  | n + 1, h => by rw [ch_n, ch_n, ch_C (n := n) (fun i hi => h i (by omega)), h n (by omega)]
def ch_all (x y : Int64) : Bool := decide (y &&& x = x)
theorem ch_allT {x y : Int64} : ch_all x y = true ↔ y &&& x = x := by
  unfold ch_all
  exact decide_eq_true_iff
def ch_any (x y : Int64) : Bool := decide (¬ y &&& x = Int64.ofNat (0 : Fin 2).val)
theorem ch_anyT {x y : Int64} : ch_any x y = true ↔ ¬ y &&& x = Int64.ofNat (0 : Fin 2).val := by
  unfold ch_any
  exact decide_eq_true_iff
def ch_no (x w y : Int64) : Bool := decide (¬ y &&& x = Int64.ofNat (0 : Fin 2).val ∧ y &&& w = Int64.ofNat (0 : Fin 2).val)
theorem ch_noT {x w y : Int64} : ch_no x w y = true ↔ (¬ y &&& x = Int64.ofNat (0 : Fin 2).val ∧ y &&& w = Int64.ofNat (0 : Fin 2).val) := by
  unfold ch_no
  exact decide_eq_true_iff
def ch_2 (a b : Nat) (y : Int64) : Bool := bs y a && bs y b
theorem ch_2T {a b : Nat} {y : Int64} : ch_2 a b y = true ↔ (bs y a = true ∧ bs y b = true) := by
  unfold ch_2
  rw [Bool.and_eq_true]
theorem bs_ext {x y : Int64} (h : ∀ w, w < 64 → bs x w = bs y w) : x = y := Int64.toBitVec_inj.1 (BitVec.eq_of_getLsbD_eq (fun i hi => h i hi))
theorem ch_allB {a b : Nat} (ha : a ≤ 40) (hb : b ≤ 40) (y : Int64) : ch_all (bt (a : Int) ||| bt (b : Int)) y = ch_2 a b y := by
  apply Bool.eq_iff_iff.mpr
  rw [ch_allT, ch_2T]
  constructor
  · intro e
    have q : ∀ w, bs (y &&& (bt (a : Int) ||| bt (b : Int))) w = bs (bt (a : Int) ||| bt (b : Int)) w := fun w => by rw [e]
    have q1 := q a
    have q2 := q b
    rw [bs_and, bs_or, bs_bt ha (by omega), bs_bt hb (by omega)] at q1 q2
    constructor
    · simpa using q1
    · simpa using q2
  · rintro ⟨e1, e2⟩
    apply bs_ext
    intro w hw
    rw [bs_and, bs_or, bs_bt ha hw, bs_bt hb hw]
    by_cases c1 : w = a
    · subst c1
      simp [e1]
    · by_cases c2 : w = b
      · subst c2
        simp [e2]
      · simp [c1, c2]
def ho_L (h : MH) (nd : Nat) (j : Nat) : Int64 := h_l h (h_r h nd 1) j
section
variable {Q : Option Value → MH → Prop} {ρ : Nat → Nat} {h : MH}
theorem k_ho {nd i : Nat} {xi : Int32} (ht : TH c_sp ρ h) (hnd : ρ nd = 39) (t1 : t_nd ρ h) (q : xi.toInt = (i : Int)) (hi : (i : Int) < z_i h nd 5) (g : Q (some (.long (ho_L h nd i))) h) : HJ 99 0 (lv_args 0 [.ref nd, .int xi]) [] h Q := by
  have hi' : (i : Int) < (h_i h nd 5).toInt := hi
  refine s_ho_0 (x := (i : Int)) (T := ((h_k h (h_r h nd 1)).2 : Int)) (MX.start (W := []) ht hnd) rfl rfl q (t1 nd (Or.inl hnd)).2 rfl (fun c => absurd c (by omega)) (fun _ _ _ c => ?_) (fun _ _ _ _ => g)
  have c' : (i : Int) ≥ (h_i h nd 5).toInt := c
  exact absurd c' (by omega)
end
section
variable {lv : List (Nat × Value)} {Q : Option Value → MH → Prop} {W : List (Nat × Nat)} {ρ : Nat → Nat} {m : Nat} {A : Nat → Nat} {h0 h : MH} {F : Nat → Int} {V : Nat → Nat → Int} {G : Nat → Nat → Int64}
theorem n_al0 (M : MX 39 W ρ m A h0 h F V G) (e1 : m_lk lv 1 = some (.ref m)) {lx2 : Int64} (e2 : m_lk lv 2 = some (.long lx2)) 
    (g0 : ∀ x1 : Int32, x1.toInt = 0 → ∀ x3 : Int32, x3.toInt = 0 → ∀ lv4 : List (Nat × Value), m_lk lv4 1 = some (.ref m) → m_lk lv4 2 = some (.long lx2) → m_lk lv4 4 = some (.int x1) → m_lk lv4 5 = some (.int x3) → HJ 98 6 lv4 [] h Q)
    : HJ 98 0 lv [] h Q := by
  refine hM_ic (n := 0) rfl (by decide) rfl (fun x1 q1 => ?_) -- 0
  refine hM_si2 (k := 4) rfl (by decide +kernel) rfl (fun lv2 e2_4 u2 => ?_) -- 1
  have e2_1 := u2 1 _ (by decide) (Or.inl rfl) e1
  have e2_2 := u2 2 _ (by decide) (Or.inr (by decide)) e2
  refine hM_ic (n := 0) rfl (by decide) rfl (fun x3 q3 => ?_) -- 3
  refine hM_si2 (k := 5) rfl (by decide +kernel) rfl (fun lv4 e4_5 u4 => ?_) -- 4
  have e4_1 := u4 1 _ (by decide) (Or.inl rfl) e2_1
  have e4_2 := u4 2 _ (by decide) (Or.inr (by decide)) e2_2
  have e4_4 := u4 4 _ (by decide) (Or.inl rfl) e2_4
  exact g0 x1 q1 x3 q3 lv4 e4_1 e4_2 e4_4 e4_5
theorem n_al6 {c i : Int} (M : MX 39 W ρ m A h0 h F V G) (e1 : m_lk lv 1 = some (.ref m)) {lx2 : Int64} (e2 : m_lk lv 2 = some (.long lx2)) {lx4 : Int32} (e4 : m_lk lv 4 = some (.int lx4)) (lq4 : lx4.toInt = c) {lx5 : Int32} (e5 : m_lk lv 5 = some (.int lx5)) (lq5 : lx5.toInt = i) 
    (g0 : 0 ≤ F 5 → F 5 ≤ 15120 → i ≥ F 5 → Q (some (.int lx4)) h)
    (g1 : 0 ≤ F 5 → F 5 ≤ 15120 → i < F 5 → HJ 99 0 (lv_args 0 [.ref m, .int lx5]) [] h (fun v h' => HJ 98 21 lv (v.toList ++ []) h' Q))
    : HJ 98 6 lv [] h Q := by
  refine hI_il2 (k := 5) rfl e5 rfl ?_ -- 6
  refine hI_al (k := 1) rfl e1 rfl ?_ -- 8
  refine hM_gi M (by decide) rfl rfl rfl (k := 5) (c := 2) (lo := 0) (hi := 15120) rfl rfl rfl rfl rfl (fun x1 q1 a1 b1 => ?_) -- 9
  refine hM_cge (off := 25) (t := 37) rfl lq5 q1 (by decide) rfl (fun c12 => ?_) (fun c12 => ?_) -- 12
  · refine hI_il2 (k := 4) rfl e4 rfl ?_ -- 37
    refine hI_ri rfl rfl ?_ -- 39
    exact g0 a1 b1 c12
  · refine hI_al (k := 1) rfl e1 rfl ?_ -- 15
    refine hI_il2 (k := 5) rfl e5 rfl ?_ -- 16
    refine hM_iv M (by decide) rfl rfl (by decide) (as := [.int lx5]) (r := []) rfl rfl (by decide +kernel) rfl (by decide +kernel) rfl rfl rfl rfl rfl ?_ -- 18
    exact g1 a1 b1 c12
theorem n_al21 {c i : Int} (M : MX 39 W ρ m A h0 h F V G) (e1 : m_lk lv 1 = some (.ref m)) {lx2 : Int64} (e2 : m_lk lv 2 = some (.long lx2)) {lx4 : Int32} (e4 : m_lk lv 4 = some (.int lx4)) (lq4 : lx4.toInt = c) {lx5 : Int32} (e5 : m_lk lv 5 = some (.int lx5)) (lq5 : lx5.toInt = i) {sx0 : Int64} (i0 : 0 ≤ i) (i1 : i ≤ 15119) (c0 : 0 ≤ c) (c1 : c ≤ i)
    (g0 : ∀ x2 : Int32, x2.toInt = i + 1 → ∀ lv2 : List (Nat × Value), m_lk lv2 1 = some (.ref m) → m_lk lv2 2 = some (.long lx2) → m_lk lv2 4 = some (.int lx4) → m_lk lv2 5 = some (.int x2) → (lg_cmp (sx0 &&& lx2) lx2).toInt ≠ 0 → HJ 98 6 lv2 [] h Q)
    (g1 : ∀ x3 : Int32, x3.toInt = c + 1 → ∀ x4 : Int32, x4.toInt = i + 1 → ∀ lv4 : List (Nat × Value), m_lk lv4 1 = some (.ref m) → m_lk lv4 2 = some (.long lx2) → m_lk lv4 4 = some (.int x3) → m_lk lv4 5 = some (.int x4) → (lg_cmp (sx0 &&& lx2) lx2).toInt = 0 → HJ 98 6 lv4 [] h Q)
    : HJ 98 21 lv [.long sx0] h Q := by
  refine hI_ll (k := 2) rfl e2 rfl ?_ -- 21
  refine hI_land rfl rfl ?_ -- 22
  refine hI_ll (k := 2) rfl e2 rfl ?_ -- 23
  refine hM_lcmp rfl rfl (fun x1 q1 => ?_) -- 24
  refine hM_zne (off := 6) (t := 31) rfl q1 (by decide) rfl (fun c25 => ?_) (fun c25 => ?_) -- 25
  · refine hM_inc (k := 5) (z := 1) rfl e5 lq5 (by decide) (by omega) (by omega) (by decide +kernel) rfl (fun lv2 x2 q2 e2_5 u2 => ?_) -- 31
    have e2_1 := u2 1 _ (by decide) (Or.inl rfl) e1
    have e2_2 := u2 2 _ (by decide) (Or.inr (by decide)) e2
    have e2_4 := u2 4 _ (by decide) (Or.inl rfl) e4
    refine hI_go (pc' := 6) (off := (-28)) rfl (by decide) ?_ -- 34
    exact g0 x2 q2 lv2 e2_1 e2_2 e2_4 e2_5 c25
  · refine hM_inc (k := 4) (z := 1) rfl e4 lq4 (by decide) (by omega) (by omega) (by decide +kernel) rfl (fun lv3 x3 q3 e3_4 u3 => ?_) -- 28
    have e3_1 := u3 1 _ (by decide) (Or.inl rfl) e1
    have e3_2 := u3 2 _ (by decide) (Or.inr (by decide)) e2
    have e3_5 := u3 5 _ (by decide) (Or.inl rfl) e5
    refine hM_inc (k := 5) (z := 1) rfl e3_5 lq5 (by decide) (by omega) (by omega) (by decide +kernel) rfl (fun lv4 x4 q4 e4_5 u4 => ?_) -- 31
    have e4_1 := u4 1 _ (by decide) (Or.inl rfl) e3_1
    have e4_2 := u4 2 _ (by decide) (Or.inr (by decide)) e3_2
    have e4_4 := u4 4 _ (by decide) (Or.inl rfl) e3_4
    refine hI_go (pc' := 6) (off := (-28)) rfl (by decide) ?_ -- 34
    exact g1 x3 q3 x4 q4 lv4 e4_1 e4_2 e4_4 e4_5 c25
theorem n_an0 (M : MX 39 W ρ m A h0 h F V G) (e1 : m_lk lv 1 = some (.ref m)) {lx2 : Int64} (e2 : m_lk lv 2 = some (.long lx2)) 
    (g0 : ∀ x1 : Int32, x1.toInt = 0 → ∀ x3 : Int32, x3.toInt = 0 → ∀ lv4 : List (Nat × Value), m_lk lv4 1 = some (.ref m) → m_lk lv4 2 = some (.long lx2) → m_lk lv4 4 = some (.int x1) → m_lk lv4 5 = some (.int x3) → HJ 151 6 lv4 [] h Q)
    : HJ 151 0 lv [] h Q := by
  refine hM_ic (n := 0) rfl (by decide) rfl (fun x1 q1 => ?_) -- 0
  refine hM_si2 (k := 4) rfl (by decide +kernel) rfl (fun lv2 e2_4 u2 => ?_) -- 1
  have e2_1 := u2 1 _ (by decide) (Or.inl rfl) e1
  have e2_2 := u2 2 _ (by decide) (Or.inr (by decide)) e2
  refine hM_ic (n := 0) rfl (by decide) rfl (fun x3 q3 => ?_) -- 3
  refine hM_si2 (k := 5) rfl (by decide +kernel) rfl (fun lv4 e4_5 u4 => ?_) -- 4
  have e4_1 := u4 1 _ (by decide) (Or.inl rfl) e2_1
  have e4_2 := u4 2 _ (by decide) (Or.inr (by decide)) e2_2
  have e4_4 := u4 4 _ (by decide) (Or.inl rfl) e2_4
  exact g0 x1 q1 x3 q3 lv4 e4_1 e4_2 e4_4 e4_5
theorem n_an6 {c i : Int} (M : MX 39 W ρ m A h0 h F V G) (e1 : m_lk lv 1 = some (.ref m)) {lx2 : Int64} (e2 : m_lk lv 2 = some (.long lx2)) {lx4 : Int32} (e4 : m_lk lv 4 = some (.int lx4)) (lq4 : lx4.toInt = c) {lx5 : Int32} (e5 : m_lk lv 5 = some (.int lx5)) (lq5 : lx5.toInt = i) 
    (g0 : 0 ≤ F 5 → F 5 ≤ 15120 → i ≥ F 5 → Q (some (.int lx4)) h)
    (g1 : 0 ≤ F 5 → F 5 ≤ 15120 → i < F 5 → HJ 99 0 (lv_args 0 [.ref m, .int lx5]) [] h (fun v h' => HJ 151 21 lv (v.toList ++ []) h' Q))
    : HJ 151 6 lv [] h Q := by
  refine hI_il2 (k := 5) rfl e5 rfl ?_ -- 6
  refine hI_al (k := 1) rfl e1 rfl ?_ -- 8
  refine hM_gi M (by decide) rfl rfl rfl (k := 5) (c := 2) (lo := 0) (hi := 15120) rfl rfl rfl rfl rfl (fun x1 q1 a1 b1 => ?_) -- 9
  refine hM_cge (off := 25) (t := 37) rfl lq5 q1 (by decide) rfl (fun c12 => ?_) (fun c12 => ?_) -- 12
  · refine hI_il2 (k := 4) rfl e4 rfl ?_ -- 37
    refine hI_ri rfl rfl ?_ -- 39
    exact g0 a1 b1 c12
  · refine hI_al (k := 1) rfl e1 rfl ?_ -- 15
    refine hI_il2 (k := 5) rfl e5 rfl ?_ -- 16
    refine hM_iv M (by decide) rfl rfl (by decide) (as := [.int lx5]) (r := []) rfl rfl (by decide +kernel) rfl (by decide +kernel) rfl rfl rfl rfl rfl ?_ -- 18
    exact g1 a1 b1 c12
theorem n_an21 {c i : Int} (M : MX 39 W ρ m A h0 h F V G) (e1 : m_lk lv 1 = some (.ref m)) {lx2 : Int64} (e2 : m_lk lv 2 = some (.long lx2)) {lx4 : Int32} (e4 : m_lk lv 4 = some (.int lx4)) (lq4 : lx4.toInt = c) {lx5 : Int32} (e5 : m_lk lv 5 = some (.int lx5)) (lq5 : lx5.toInt = i) {sx0 : Int64} (i0 : 0 ≤ i) (i1 : i ≤ 15119) (c0 : 0 ≤ c) (c1 : c ≤ i)
    (g0 : ∀ x2 : Int32, x2.toInt = i + 1 → ∀ lv2 : List (Nat × Value), m_lk lv2 1 = some (.ref m) → m_lk lv2 2 = some (.long lx2) → m_lk lv2 4 = some (.int lx4) → m_lk lv2 5 = some (.int x2) → (lg_cmp (sx0 &&& lx2) (Int64.ofNat (0 : Fin 2).val)).toInt = 0 → HJ 151 6 lv2 [] h Q)
    (g1 : ∀ x3 : Int32, x3.toInt = c + 1 → ∀ x4 : Int32, x4.toInt = i + 1 → ∀ lv4 : List (Nat × Value), m_lk lv4 1 = some (.ref m) → m_lk lv4 2 = some (.long lx2) → m_lk lv4 4 = some (.int x3) → m_lk lv4 5 = some (.int x4) → (lg_cmp (sx0 &&& lx2) (Int64.ofNat (0 : Fin 2).val)).toInt ≠ 0 → HJ 151 6 lv4 [] h Q)
    : HJ 151 21 lv [.long sx0] h Q := by
  refine hI_ll (k := 2) rfl e2 rfl ?_ -- 21
  refine hI_land rfl rfl ?_ -- 22
  refine hI_lc (n := 0) rfl rfl ?_ -- 23
  refine hM_lcmp rfl rfl (fun x1 q1 => ?_) -- 24
  refine hM_zeq (off := 6) (t := 31) rfl q1 (by decide) rfl (fun c25 => ?_) (fun c25 => ?_) -- 25
  · refine hM_inc (k := 5) (z := 1) rfl e5 lq5 (by decide) (by omega) (by omega) (by decide +kernel) rfl (fun lv2 x2 q2 e2_5 u2 => ?_) -- 31
    have e2_1 := u2 1 _ (by decide) (Or.inl rfl) e1
    have e2_2 := u2 2 _ (by decide) (Or.inr (by decide)) e2
    have e2_4 := u2 4 _ (by decide) (Or.inl rfl) e4
    refine hI_go (pc' := 6) (off := (-28)) rfl (by decide) ?_ -- 34
    exact g0 x2 q2 lv2 e2_1 e2_2 e2_4 e2_5 c25
  · refine hM_inc (k := 4) (z := 1) rfl e4 lq4 (by decide) (by omega) (by omega) (by decide +kernel) rfl (fun lv3 x3 q3 e3_4 u3 => ?_) -- 28
    have e3_1 := u3 1 _ (by decide) (Or.inl rfl) e1
    have e3_2 := u3 2 _ (by decide) (Or.inr (by decide)) e2
    have e3_5 := u3 5 _ (by decide) (Or.inl rfl) e5
    refine hM_inc (k := 5) (z := 1) rfl e3_5 lq5 (by decide) (by omega) (by omega) (by decide +kernel) rfl (fun lv4 x4 q4 e4_5 u4 => ?_) -- 31
    have e4_1 := u4 1 _ (by decide) (Or.inl rfl) e3_1
    have e4_2 := u4 2 _ (by decide) (Or.inr (by decide)) e3_2
    have e4_4 := u4 4 _ (by decide) (Or.inl rfl) e3_4
    refine hI_go (pc' := 6) (off := (-28)) rfl (by decide) ?_ -- 34
    exact g1 x3 q3 x4 q4 lv4 e4_1 e4_2 e4_4 e4_5 c25
theorem n_wo0 (M : MX 39 W ρ m A h0 h F V G) (e1 : m_lk lv 1 = some (.ref m)) {lx2 : Int64} (e2 : m_lk lv 2 = some (.long lx2)) {lx4 : Int64} (e4 : m_lk lv 4 = some (.long lx4)) 
    (g0 : ∀ x1 : Int32, x1.toInt = 0 → ∀ x3 : Int32, x3.toInt = 0 → ∀ lv4 : List (Nat × Value), m_lk lv4 1 = some (.ref m) → m_lk lv4 2 = some (.long lx2) → m_lk lv4 4 = some (.long lx4) → m_lk lv4 6 = some (.int x1) → m_lk lv4 7 = some (.int x3) → HJ 101 6 lv4 [] h Q)
    : HJ 101 0 lv [] h Q := by
  refine hM_ic (n := 0) rfl (by decide) rfl (fun x1 q1 => ?_) -- 0
  refine hM_si2 (k := 6) rfl (by decide +kernel) rfl (fun lv2 e2_6 u2 => ?_) -- 1
  have e2_1 := u2 1 _ (by decide) (Or.inl rfl) e1
  have e2_2 := u2 2 _ (by decide) (Or.inr (by decide)) e2
  have e2_4 := u2 4 _ (by decide) (Or.inr (by decide)) e4
  refine hM_ic (n := 0) rfl (by decide) rfl (fun x3 q3 => ?_) -- 3
  refine hM_si2 (k := 7) rfl (by decide +kernel) rfl (fun lv4 e4_7 u4 => ?_) -- 4
  have e4_1 := u4 1 _ (by decide) (Or.inl rfl) e2_1
  have e4_2 := u4 2 _ (by decide) (Or.inr (by decide)) e2_2
  have e4_4 := u4 4 _ (by decide) (Or.inr (by decide)) e2_4
  have e4_6 := u4 6 _ (by decide) (Or.inl rfl) e2_6
  exact g0 x1 q1 x3 q3 lv4 e4_1 e4_2 e4_4 e4_6 e4_7
theorem n_wo6 {c i : Int} (M : MX 39 W ρ m A h0 h F V G) (e1 : m_lk lv 1 = some (.ref m)) {lx2 : Int64} (e2 : m_lk lv 2 = some (.long lx2)) {lx4 : Int64} (e4 : m_lk lv 4 = some (.long lx4)) {lx6 : Int32} (e6 : m_lk lv 6 = some (.int lx6)) (lq6 : lx6.toInt = c) {lx7 : Int32} (e7 : m_lk lv 7 = some (.int lx7)) (lq7 : lx7.toInt = i) 
    (g0 : 0 ≤ F 5 → F 5 ≤ 15120 → i ≥ F 5 → Q (some (.int lx6)) h)
    (g1 : 0 ≤ F 5 → F 5 ≤ 15120 → i < F 5 → HJ 99 0 (lv_args 0 [.ref m, .int lx7]) [] h (fun v h' => HJ 101 21 lv (v.toList ++ []) h' Q))
    : HJ 101 6 lv [] h Q := by
  refine hI_il2 (k := 7) rfl e7 rfl ?_ -- 6
  refine hI_al (k := 1) rfl e1 rfl ?_ -- 8
  refine hM_gi M (by decide) rfl rfl rfl (k := 5) (c := 2) (lo := 0) (hi := 15120) rfl rfl rfl rfl rfl (fun x1 q1 a1 b1 => ?_) -- 9
  refine hM_cge (off := 39) (t := 51) rfl lq7 q1 (by decide) rfl (fun c12 => ?_) (fun c12 => ?_) -- 12
  · refine hI_il2 (k := 6) rfl e6 rfl ?_ -- 51
    refine hI_ri rfl rfl ?_ -- 53
    exact g0 a1 b1 c12
  · refine hI_al (k := 1) rfl e1 rfl ?_ -- 15
    refine hI_il2 (k := 7) rfl e7 rfl ?_ -- 16
    refine hM_iv M (by decide) rfl rfl (by decide) (as := [.int lx7]) (r := []) rfl rfl (by decide +kernel) rfl (by decide +kernel) rfl rfl rfl rfl rfl ?_ -- 18
    exact g1 a1 b1 c12
theorem n_wo21 {c i : Int} (M : MX 39 W ρ m A h0 h F V G) (e1 : m_lk lv 1 = some (.ref m)) {lx2 : Int64} (e2 : m_lk lv 2 = some (.long lx2)) {lx4 : Int64} (e4 : m_lk lv 4 = some (.long lx4)) {lx6 : Int32} (e6 : m_lk lv 6 = some (.int lx6)) (lq6 : lx6.toInt = c) {lx7 : Int32} (e7 : m_lk lv 7 = some (.int lx7)) (lq7 : lx7.toInt = i) {sx0 : Int64} (i0 : 0 ≤ i) (i1 : i ≤ 15119) (c0 : 0 ≤ c) (c1 : c ≤ i)
    (g0 : ∀ x3 : Int32, x3.toInt = i + 1 → ∀ lv3 : List (Nat × Value), m_lk lv3 1 = some (.ref m) → m_lk lv3 2 = some (.long lx2) → m_lk lv3 4 = some (.long lx4) → m_lk lv3 6 = some (.int lx6) → m_lk lv3 7 = some (.int x3) → (lg_cmp (sx0 &&& lx2) (Int64.ofNat (0 : Fin 2).val)).toInt = 0 → HJ 101 6 lv3 [] h Q)
    (g1 : ∀ x5 : Int32, x5.toInt = i + 1 → ∀ lv5 : List (Nat × Value), m_lk lv5 1 = some (.ref m) → m_lk lv5 2 = some (.long lx2) → m_lk lv5 4 = some (.long lx4) → m_lk lv5 6 = some (.int lx6) → m_lk lv5 7 = some (.int x5) → (lg_cmp (sx0 &&& lx2) (Int64.ofNat (0 : Fin 2).val)).toInt ≠ 0 → (lg_cmp (sx0 &&& lx4) (Int64.ofNat (0 : Fin 2).val)).toInt ≠ 0 → HJ 101 6 lv5 [] h Q)
    (g2 : ∀ x6 : Int32, x6.toInt = c + 1 → ∀ x7 : Int32, x7.toInt = i + 1 → ∀ lv7 : List (Nat × Value), m_lk lv7 1 = some (.ref m) → m_lk lv7 2 = some (.long lx2) → m_lk lv7 4 = some (.long lx4) → m_lk lv7 6 = some (.int x6) → m_lk lv7 7 = some (.int x7) → (lg_cmp (sx0 &&& lx2) (Int64.ofNat (0 : Fin 2).val)).toInt ≠ 0 → (lg_cmp (sx0 &&& lx4) (Int64.ofNat (0 : Fin 2).val)).toInt = 0 → HJ 101 6 lv7 [] h Q)
    : HJ 101 21 lv [.long sx0] h Q := by
  refine hM_sl2 (k := 8) rfl (by decide +kernel) rfl (fun lv1 e1_8 u1 => ?_) -- 21
  have e1_1 := u1 1 _ (by decide) (by decide) (Or.inl rfl) e1
  have e1_2 := u1 2 _ (by decide) (by decide) (Or.inr (by decide)) e2
  have e1_4 := u1 4 _ (by decide) (by decide) (Or.inr (by decide)) e4
  have e1_6 := u1 6 _ (by decide) (by decide) (Or.inl rfl) e6
  have e1_7 := u1 7 _ (by decide) (by decide) (Or.inl rfl) e7
  refine hI_ll2 (k := 8) rfl e1_8 rfl ?_ -- 23
  refine hI_ll (k := 2) rfl e1_2 rfl ?_ -- 25
  refine hI_land rfl rfl ?_ -- 26
  refine hI_lc (n := 0) rfl rfl ?_ -- 27
  refine hM_lcmp rfl rfl (fun x2 q2 => ?_) -- 28
  refine hM_zeq (off := 16) (t := 45) rfl q2 (by decide) rfl (fun c29 => ?_) (fun c29 => ?_) -- 29
  · refine hM_inc (k := 7) (z := 1) rfl e1_7 lq7 (by decide) (by omega) (by omega) (by decide +kernel) rfl (fun lv3 x3 q3 e3_7 u3 => ?_) -- 45
    have e3_1 := u3 1 _ (by decide) (Or.inl rfl) e1_1
    have e3_2 := u3 2 _ (by decide) (Or.inr (by decide)) e1_2
    have e3_4 := u3 4 _ (by decide) (Or.inr (by decide)) e1_4
    have e3_6 := u3 6 _ (by decide) (Or.inl rfl) e1_6
    have e3_8 := u3 8 _ (by decide) (Or.inr (by decide)) e1_8
    refine hI_go (pc' := 6) (off := (-42)) rfl (by decide) ?_ -- 48
    exact g0 x3 q3 lv3 e3_1 e3_2 e3_4 e3_6 e3_7 c29
  · refine hI_ll2 (k := 8) rfl e1_8 rfl ?_ -- 32
    refine hI_ll2 (k := 4) rfl e1_4 rfl ?_ -- 34
    refine hI_land rfl rfl ?_ -- 36
    refine hI_lc (n := 0) rfl rfl ?_ -- 37
    refine hM_lcmp rfl rfl (fun x4 q4 => ?_) -- 38
    refine hM_zne (off := 6) (t := 45) rfl q4 (by decide) rfl (fun c39 => ?_) (fun c39 => ?_) -- 39
    · refine hM_inc (k := 7) (z := 1) rfl e1_7 lq7 (by decide) (by omega) (by omega) (by decide +kernel) rfl (fun lv5 x5 q5 e5_7 u5 => ?_) -- 45
      have e5_1 := u5 1 _ (by decide) (Or.inl rfl) e1_1
      have e5_2 := u5 2 _ (by decide) (Or.inr (by decide)) e1_2
      have e5_4 := u5 4 _ (by decide) (Or.inr (by decide)) e1_4
      have e5_6 := u5 6 _ (by decide) (Or.inl rfl) e1_6
      have e5_8 := u5 8 _ (by decide) (Or.inr (by decide)) e1_8
      refine hI_go (pc' := 6) (off := (-42)) rfl (by decide) ?_ -- 48
      exact g1 x5 q5 lv5 e5_1 e5_2 e5_4 e5_6 e5_7 c29 c39
    · refine hM_inc (k := 6) (z := 1) rfl e1_6 lq6 (by decide) (by omega) (by omega) (by decide +kernel) rfl (fun lv6 x6 q6 e6_6 u6 => ?_) -- 42
      have e6_1 := u6 1 _ (by decide) (Or.inl rfl) e1_1
      have e6_2 := u6 2 _ (by decide) (Or.inr (by decide)) e1_2
      have e6_4 := u6 4 _ (by decide) (Or.inr (by decide)) e1_4
      have e6_7 := u6 7 _ (by decide) (Or.inl rfl) e1_7
      have e6_8 := u6 8 _ (by decide) (Or.inr (by decide)) e1_8
      refine hM_inc (k := 7) (z := 1) rfl e6_7 lq7 (by decide) (by omega) (by omega) (by decide +kernel) rfl (fun lv7 x7 q7 e7_7 u7 => ?_) -- 45
      have e7_1 := u7 1 _ (by decide) (Or.inl rfl) e6_1
      have e7_2 := u7 2 _ (by decide) (Or.inr (by decide)) e6_2
      have e7_4 := u7 4 _ (by decide) (Or.inr (by decide)) e6_4
      have e7_8 := u7 8 _ (by decide) (Or.inr (by decide)) e6_8
      have e7_6 := u7 6 _ (by decide) (Or.inl rfl) e6_6
      refine hI_go (pc' := 6) (off := (-42)) rfl (by decide) ?_ -- 48
      exact g2 x6 q6 x7 q7 lv7 e7_1 e7_2 e7_4 e7_6 e7_7 c29 c39
end
section
variable {Q : Option Value → MH → Prop} {ρ : Nat → Nat} {h : MH}
theorem l_al {nd n : Nat} {x : Int64} (ht : TH c_sp ρ h) (hnd : ρ nd = 39) (t1 : t_nd ρ h) (en : z_i h nd 5 = (n : Int)) (g : ∀ y : Int32, y.toInt = (ch_n (ch_all x) (ho_L h nd) n : Int) → Q (some (.int y)) h) : ∀ (d i : Nat) (lv : List (Nat × Value)) (xc xi : Int32), i + d = n → xc.toInt = (ch_n (ch_all x) (ho_L h nd) i : Int) → xi.toInt = (i : Int) → m_lk lv 1 = some (.ref nd) → m_lk lv 2 = some (.long x) → m_lk lv 4 = some (.int xc) → m_lk lv 5 = some (.int xi) → HJ 98 6 lv [] h Q := by
  have M := MX.start (W := []) ht hnd
  have en' : (h_i h nd 5).toInt = (n : Int) := en
  intro d
  induction d with
  | zero =>
    intro i lv xc xi hd qc qi e1 e2 e4 e5
    have ei : i = n := by omega
    subst ei
    refine n_al6 M e1 e2 e4 qc e5 qi (fun _ _ _ => g xc qc) (fun _ _ c => ?_)
    have c' : (i : Int) < (h_i h nd 5).toInt := c
    exact absurd c' (by omega)
  | succ d ih =>
    intro i lv xc xi hd qc qi e1 e2 e4 e5
    refine n_al6 M e1 e2 e4 qc e5 qi (fun _ _ c => ?_) (fun _ b _ => ?_)
    · have c' : (i : Int) ≥ (h_i h nd 5).toInt := c
      exact absurd c' (by omega)
    have b' : (h_i h nd 5).toInt ≤ 15120 := b
    refine k_ho ht hnd t1 qi (by show (i : Int) < (h_i h nd 5).toInt; omega) ?_
    show HJ 98 21 lv [.long (ho_L h nd i)] h Q
    have cl := ch_L (p := ch_all x) (L := ho_L h nd) i
    refine n_al21 M e1 e2 e4 qc e5 qi (by omega) (by omega) (by omega) (by omega) (fun x2 q2 lv2 a1 a2 a4 a5 c => ?_) (fun x3 q3 x4 q4 lv4 a1 a2 a4 a5 c => ?_)
    · refine ih (i + 1) lv2 xc x2 (by omega) ?_ (by omega) a1 a2 a4 a5
      rw [ch_n, if_neg (fun y => c (lg_0.mpr (ch_allT.mp y)))]
      exact qc
    · refine ih (i + 1) lv4 x3 x4 (by omega) ?_ (by omega) a1 a2 a4 a5
      rw [ch_n, if_pos (ch_allT.mpr (lg_0.mp c))]
      omega
theorem k_al {sh nd n : Nat} {x : Int64} (ht : TH c_sp ρ h) (hnd : ρ nd = 39) (t1 : t_nd ρ h) (en : z_i h nd 5 = (n : Int)) (g : ∀ y : Int32, y.toInt = (ch_n (ch_all x) (ho_L h nd) n : Int) → Q (some (.int y)) h) : HJ 98 0 (lv_args 0 [.ref sh, .ref nd, .long x]) [] h Q :=
  n_al0 (MX.start (W := []) ht hnd) rfl rfl (fun x1 q1 x3 q3 lv4 a1 a2 a4 a5 => l_al ht hnd t1 en g n 0 lv4 x1 x3 (by omega) q1 q3 a1 a2 a4 a5)
theorem l_an {nd n : Nat} {x : Int64} (ht : TH c_sp ρ h) (hnd : ρ nd = 39) (t1 : t_nd ρ h) (en : z_i h nd 5 = (n : Int)) (g : ∀ y : Int32, y.toInt = (ch_n (ch_any x) (ho_L h nd) n : Int) → Q (some (.int y)) h) : ∀ (d i : Nat) (lv : List (Nat × Value)) (xc xi : Int32), i + d = n → xc.toInt = (ch_n (ch_any x) (ho_L h nd) i : Int) → xi.toInt = (i : Int) → m_lk lv 1 = some (.ref nd) → m_lk lv 2 = some (.long x) → m_lk lv 4 = some (.int xc) → m_lk lv 5 = some (.int xi) → HJ 151 6 lv [] h Q := by
  have M := MX.start (W := []) ht hnd
  have en' : (h_i h nd 5).toInt = (n : Int) := en
  intro d
  induction d with
  | zero =>
    intro i lv xc xi hd qc qi e1 e2 e4 e5
    have ei : i = n := by omega
    subst ei
    refine n_an6 M e1 e2 e4 qc e5 qi (fun _ _ _ => g xc qc) (fun _ _ c => ?_)
    have c' : (i : Int) < (h_i h nd 5).toInt := c
    exact absurd c' (by omega)
  | succ d ih =>
    intro i lv xc xi hd qc qi e1 e2 e4 e5
    refine n_an6 M e1 e2 e4 qc e5 qi (fun _ _ c => ?_) (fun _ b _ => ?_)
    · have c' : (i : Int) ≥ (h_i h nd 5).toInt := c
      exact absurd c' (by omega)
    have b' : (h_i h nd 5).toInt ≤ 15120 := b
    refine k_ho ht hnd t1 qi (by show (i : Int) < (h_i h nd 5).toInt; omega) ?_
    show HJ 151 21 lv [.long (ho_L h nd i)] h Q
    have cl := ch_L (p := ch_any x) (L := ho_L h nd) i
    refine n_an21 M e1 e2 e4 qc e5 qi (by omega) (by omega) (by omega) (by omega) (fun x2 q2 lv2 a1 a2 a4 a5 c => ?_) (fun x3 q3 x4 q4 lv4 a1 a2 a4 a5 c => ?_)
    · refine ih (i + 1) lv2 xc x2 (by omega) ?_ (by omega) a1 a2 a4 a5
      rw [ch_n, if_neg (fun y => ch_anyT.mp y (lg_0.mp c))]
      exact qc
    · refine ih (i + 1) lv4 x3 x4 (by omega) ?_ (by omega) a1 a2 a4 a5
      rw [ch_n, if_pos (ch_anyT.mpr (fun y => c (lg_0.mpr y)))]
      omega
theorem k_an {sh nd n : Nat} {x : Int64} (ht : TH c_sp ρ h) (hnd : ρ nd = 39) (t1 : t_nd ρ h) (en : z_i h nd 5 = (n : Int)) (g : ∀ y : Int32, y.toInt = (ch_n (ch_any x) (ho_L h nd) n : Int) → Q (some (.int y)) h) : HJ 151 0 (lv_args 0 [.ref sh, .ref nd, .long x]) [] h Q :=
  n_an0 (MX.start (W := []) ht hnd) rfl rfl (fun x1 q1 x3 q3 lv4 a1 a2 a4 a5 => l_an ht hnd t1 en g n 0 lv4 x1 x3 (by omega) q1 q3 a1 a2 a4 a5)
theorem l_wo {nd n : Nat} {x w : Int64} (ht : TH c_sp ρ h) (hnd : ρ nd = 39) (t1 : t_nd ρ h) (en : z_i h nd 5 = (n : Int)) (g : ∀ y : Int32, y.toInt = (ch_n (ch_no x w) (ho_L h nd) n : Int) → Q (some (.int y)) h) : ∀ (d i : Nat) (lv : List (Nat × Value)) (xc xi : Int32), i + d = n → xc.toInt = (ch_n (ch_no x w) (ho_L h nd) i : Int) → xi.toInt = (i : Int) → m_lk lv 1 = some (.ref nd) → m_lk lv 2 = some (.long x) → m_lk lv 4 = some (.long w) → m_lk lv 6 = some (.int xc) → m_lk lv 7 = some (.int xi) → HJ 101 6 lv [] h Q := by
  have M := MX.start (W := []) ht hnd
  have en' : (h_i h nd 5).toInt = (n : Int) := en
  intro d
  induction d with
  | zero =>
    intro i lv xc xi hd qc qi e1 e2 e4 e6 e7
    have ei : i = n := by omega
    subst ei
    refine n_wo6 M e1 e2 e4 e6 qc e7 qi (fun _ _ _ => g xc qc) (fun _ _ c => ?_)
    have c' : (i : Int) < (h_i h nd 5).toInt := c
    exact absurd c' (by omega)
  | succ d ih =>
    intro i lv xc xi hd qc qi e1 e2 e4 e6 e7
    refine n_wo6 M e1 e2 e4 e6 qc e7 qi (fun _ _ c => ?_) (fun _ b _ => ?_)
    · have c' : (i : Int) ≥ (h_i h nd 5).toInt := c
      exact absurd c' (by omega)
    have b' : (h_i h nd 5).toInt ≤ 15120 := b
    refine k_ho ht hnd t1 qi (by show (i : Int) < (h_i h nd 5).toInt; omega) ?_
    show HJ 101 21 lv [.long (ho_L h nd i)] h Q
    have cl := ch_L (p := ch_no x w) (L := ho_L h nd) i
    refine n_wo21 M e1 e2 e4 e6 qc e7 qi (by omega) (by omega) (by omega) (by omega) (fun x3 q3 lv3 a1 a2 a4 a6 a7 c => ?_) (fun x5 q5 lv5 a1 a2 a4 a6 a7 c c2 => ?_) (fun x6 q6 x7 q7 lv7 a1 a2 a4 a6 a7 c c2 => ?_)
    · refine ih (i + 1) lv3 xc x3 (by omega) ?_ (by omega) a1 a2 a4 a6 a7
      rw [ch_n, if_neg (fun y => (ch_noT.mp y).1 (lg_0.mp c))]
      exact qc
    · refine ih (i + 1) lv5 xc x5 (by omega) ?_ (by omega) a1 a2 a4 a6 a7
      rw [ch_n, if_neg (fun y => c2 (lg_0.mpr (ch_noT.mp y).2))]
      exact qc
    · refine ih (i + 1) lv7 x6 x7 (by omega) ?_ (by omega) a1 a2 a4 a6 a7
      rw [ch_n, if_pos (ch_noT.mpr ⟨fun y => c (lg_0.mpr y), lg_0.mp c2⟩)]
      omega
theorem k_wo {sh nd n : Nat} {x w : Int64} (ht : TH c_sp ρ h) (hnd : ρ nd = 39) (t1 : t_nd ρ h) (en : z_i h nd 5 = (n : Int)) (g : ∀ y : Int32, y.toInt = (ch_n (ch_no x w) (ho_L h nd) n : Int) → Q (some (.int y)) h) : HJ 101 0 (lv_args 0 [.ref sh, .ref nd, .long x, .long w]) [] h Q :=
  n_wo0 (MX.start (W := []) ht hnd) rfl rfl rfl (fun x1 q1 x3 q3 lv4 a1 a2 a4 a6 a7 => l_wo ht hnd t1 en g n 0 lv4 x1 x3 (by omega) q1 q3 a1 a2 a4 a6 a7)
end
-- the reference's holders, told
theorem sw_H {Y : RYt} {F F0 : Nat → Int} {V0 V1 : Nat → Nat → Int} {G : Nat → Nat → Int64} {v : Int} (l : laid Y F0 V0 G) (v0 : 0 ≤ v) (v1 : v < (ry_v Y : Int)) (f17 : F 17 = F0 17) (e24 : ∀ r, r < 6 → V1 24 r = V0 36 (6 * v.toNat + r)) (oth : ∀ K, K < 24 → V1 K = V0 K) : (p_sh (F 17) (V1 22) (V1 23) ∧ p_hp (F 17) (V1 22) (V1 24) ∧ F 17 ≤ 16000) ∧ rn_of F V1 (ry_s Y) ∧ hp6 (V1 24) (ry_h Y v) := by
  obtain ⟨⟨n, n40, o⟩, y, -, ⟨i1, i2, i3⟩, ⟨i4, i5⟩, ⟨i6, i7⟩, -⟩ := l
  have a : m_u F0 19 0 17 = (ps_n (ry_s Y) : Int) := y.1.1
  have a35 : m_u F0 19 0 35 = (ry_v Y : Int) := y.2.2.1
  rw [m_uN _ _ _ _ (by decide)] at a a35
  refine ⟨⟨by rw [f17, oth 22 (by decide), oth 23 (by decide)]; exact i1, fun r hr => ?_, by omega⟩, ⟨f17.trans a, fun u hu => ?_⟩, fun r hr => ?_⟩
  · rw [f17, oth 22 (by decide), e24 r hr]
    exact i3 v.toNat r (by omega) hr
  · rw [oth 20 (by decide), oth 21 (by decide), oth 22 (by decide), oth 23 (by decide)]
    exact y.1.2.2.2 u hu
  · rw [e24 r hr]
    exact y.2.2.2.1 (6 * v.toNat + r) (by show 6 * v.toNat + r < 6 * ry_v Y; omega)
section
variable {lv : List (Nat × Value)} {Q : Option Value → MH → Prop} {W : List (Nat × Nat)} {ρ : Nat → Nat} {m : Nat} {A : Nat → Nat} {h0 h : MH} {F : Nat → Int} {V : Nat → Nat → Int} {G : Nat → Nat → Int64}
theorem l_ht44 {v n w : Nat} {xv : Int32} {O : WKt} {L : Nat → Int64} (hw : d_sub [(77, 1001)] W = true) (v40 : v ≤ 40) (fw : F 26 = (w : Int)) (w63 : w ≤ 63) (hv : xv.toInt = (v : Int)) (wo : ∀ i, i < w → O.2.1 i = V 27 i) (g : ∀ (lv : List (Nat × Value)) (h : MH) (G : Nat → Nat → Int64) (xv' : Int32), MX 49 W ρ m A h0 h F V G → (∀ j, j < n → G 42 j = hd_w O (bt (v : Int)) w L j) → xv'.toInt = (v : Int) + 1 → m_lk lv 0 = some (.ref m) → m_lk lv 1 = some (.int xv') → HJ 229 25 lv [] h Q) : ∀ (d i : Nat) (lv : List (Nat × Value)) (h : MH) (G : Nat → Nat → Int64) (xi : Int32), i + d = w → MX 49 W ρ m A h0 h F V G → (∀ j, j < n → G 42 j = hd_w O (bt (v : Int)) i L j) → xi.toInt = (i : Int) → m_lk lv 0 = some (.ref m) → m_lk lv 1 = some (.int xv) → m_lk lv 2 = some (.int xi) → HJ 229 44 lv [] h Q := by
  intro d
  induction d with
  | zero =>
    intro i lv h G xi hd M I hi e0 e1 e2
    have ei : i = w := by omega
    subst ei
    exact s_ho44 M e0 e1 hv e2 hi (by omega) (by omega) (by omega) (by omega) hw (fun x2 q2 lv2 d0 d1 d2 _ _ _ => g lv2 h G x2 M I q2 d0 d1) (fun h5 G5 f5 x6 q6 lv6 M5 e6_0 e6_1 e6_2 a1 b1 c49 a3 b3 => by omega)
  | succ d ih =>
    intro i lv h G xi hd M I hi e0 e1 e2
    refine s_ho44 M e0 e1 hv e2 hi (by omega) (by omega) (by omega) (by omega) hw (fun x2 q2 lv2 d0 d1 d2 _ _ _ => by omega) (fun h5 G5 f5 x6 q6 lv6 M5 d0 d1 d2 _ _ _ _ _ => ?_)
    refine ih (i + 1) lv6 h5 G5 x6 (by omega) M5 (fun j hj => ?_) (by omega) d0 d1 d2
    have e : G5 42 = m_u (G 42) (V 27 i).toNat (G 42 (V 27 i).toNat ||| bt (v : Int)) := by
      rw [f5, m_uE]
      rfl
    rw [e]
    show m_u (G 42) (V 27 i).toNat (G 42 (V 27 i).toNat ||| bt (v : Int)) j = if j = (O.2.1 i).toNat then hd_w O (bt (v : Int)) i L j ||| bt (v : Int) else hd_w O (bt (v : Int)) i L j
    rw [wo i (by omega)]
    by_cases c : j = (V 27 i).toNat
    · rw [← c, m_uE, if_pos rfl, I j hj]
    · rw [m_uN _ _ _ _ c, if_neg c, I j hj]
theorem l_ht25 {Y : RYt} {F0 : Nat → Int} {V0 : Nat → Nat → Int} {G0 : Nat → Nat → Int64} (hw : d_sub g_hd W = true) (l : laid Y F0 V0 G0) (g : ∀ (h' : MH) (F' : Nat → Int) (V' : Nat → Nat → Int) (G' : Nat → Nat → Int64), MX 49 W ρ m A h0 h' F' V' G' → z_hI F0 V0 F' V' → (∀ j, j < ps_n (ry_s Y) → G' 42 j = hd_Y Y j) → Q none h') : ∀ (d v : Nat) (lv : List (Nat × Value)) (h : MH) (F : Nat → Int) (V : Nat → Nat → Int) (G : Nat → Nat → Int64) (xv : Int32), v + d = ry_v Y → MX 49 W ρ m A h0 h F V G → z_hI F0 V0 F V → (∀ j, j < ps_n (ry_s Y) → G 42 j = hd_n (ry_s Y) (ry_h Y) (fun _ => Int64.ofNat (0 : Fin 2).val) v j) → xv.toInt = (v : Int) → m_lk lv 0 = some (.ref m) → m_lk lv 1 = some (.int xv) → HJ 229 25 lv [] h Q := by
  have w1 : d_sub [(61, 1001)] W = true := d_subm hw (by decide +kernel)
  have w2 : d_sub g_wk W = true := d_subm hw (by decide +kernel)
  have w3 : d_sub [(77, 1001)] W = true := d_subm hw (by decide +kernel)
  obtain ⟨q35, q1, q41⟩ := laid_v l
  intro d
  induction d with
  | zero =>
    intro v lv h F V G xv hd M I c hv e0 e1
    have f35 := I.1 35 (by decide)
    have ve : v = ry_v Y := by omega
    subst ve
    exact s_ho25 M e0 e1 hv (fun _ _ _ => g h F V G M I c) (fun _ _ c => by omega)
  | succ d ih =>
    intro v lv h F V G xv hd M I c hv e0 e1
    have f35 := I.1 35 (by decide)
    refine s_ho25 M e0 e1 hv (fun _ _ _ => by omega) (fun _ _ _ => ?_)
    refine c_hand (v := v) M hv (by omega) w1 (fun h2 V2 M2 k1 k2 => ?_)
    obtain ⟨⟨s1, s2, s3⟩, rn, h6⟩ := sw_H (F := F) (V1 := V2) (v := (v : Int)) l (by omega) (by omega) (I.1 17 (by decide)) (fun r hr => by rw [k1 r hr, I.2 36 (by decide)]; rfl) (fun K hK => by rw [k2 K (by omega), I.2 K (Or.inl hK)])
    refine s_ho38 M2 e0 e1 hv ?_
    refine c_walkAll M2 rfl w2 s1 s2 s3 (fun h3 F3 V3 M3 J fw X WO => ?_)
    have wo := WO _ _ rn h6
    have wl := p_wsL (f := V2 24) 6
    have p64 : (2 : Nat) ^ 6 = 64 := rfl
    have I3 : z_hI F0 V0 F3 V3 := ⟨fun K hK => (J.1 K hK).trans (I.1 K hK), fun K hK => by rw [J.2 K (by omega), k2 K (by omega), I.2 K hK]⟩
    refine s_ho42 M3 e0 e1 hv (fun x1 q1 lv2 d0 d1 d2 => ?_)
    exact l_ht44 (v := v) (n := ps_n (ry_s Y)) (w := p_ws (V2 24) 6) (O := wk_all (ry_s Y) (ry_h Y (v : Int))) (L := hd_n (ry_s Y) (ry_h Y) (fun _ => Int64.ofNat (0 : Fin 2).val) v) w3 (by omega) fw (by omega) hv (fun i hi => (wo.2 i hi).1) (fun lv4 h4 G4 xv' M4 c4 q4 b0 b1 => ih (v + 1) lv4 h4 F3 V3 G4 xv' (by omega) M4 I3 (fun j hj => by rw [c4 j hj, ← wo.1]; rfl) (by omega) b0 b1) (p_ws (V2 24) 6) 0 lv2 h3 G x1 (by omega) M3 c q1 d0 d1 d2
theorem laid_n {Y : RYt} {F : Nat → Int} {V : Nat → Nat → Int} {G : Nat → Nat → Int64} (l : laid Y F V G) : F 17 = (ps_n (ry_s Y) : Int) ∧ ps_n (ry_s Y) ≤ 15120 := by
  obtain ⟨-, y, -, -, ⟨i4, i5⟩, -⟩ := l
  have a : m_u F 19 0 17 = (ps_n (ry_s Y) : Int) := y.1.1
  rw [m_uN _ _ _ _ (by decide)] at a
  exact ⟨a, by omega⟩
theorem c_holdT {Y : RYt} (M : MX 49 W ρ m A h0 h F V G) (hw : d_sub g_hd W = true) (l : laid Y F V G) (g : ∀ (h' : MH) (F' : Nat → Int) (V' : Nat → Nat → Int) (G' : Nat → Nat → Int64), MX 49 W ρ m A h0 h' F' V' G' → z_hI F V F' V' → (∀ j, j < ps_n (ry_s Y) → G' 42 j = hd_Y Y j) → Q none h') : HJ 229 0 (lv_args 0 [.ref m]) [] h Q := by
  have w3 : d_sub [(77, 1001)] W = true := d_subm hw (by decide +kernel)
  obtain ⟨fn, n1⟩ := laid_n l
  refine s_ho0 M rfl (fun x1 q1 lv2 e0 e1 => ?_)
  refine l_ho2 (n := ps_n (ry_s Y)) w3 fn (by omega) (fun lv3 h3 G3 x M3 k1 q3 d0 d1 => ?_) (ps_n (ry_s Y)) 0 lv2 h G x1 (by omega) M (fun j hj => absurd hj (Nat.not_lt_zero j)) q1 e0 e1
  exact l_ht25 (F0 := F) (V0 := V) hw l g (ry_v Y) 0 lv3 h3 F V G3 x (by omega) M3 ⟨fun _ _ => rfl, fun _ _ => rfl⟩ (fun j hj => (k1 j hj).trans rfl) q3 d0 d1
theorem c_hasB {x : Int64} {v : Nat} {xk : Int32} (M : MX 49 W ρ m A h0 h F V G) (hk : xk.toInt = (v : Int)) (hv : v ≤ 40) (g : ∀ z : Int32, z.toInt = (if bs x v = true then 1 else 0) → Q (some (.int z)) h) : HJ 232 0 (lv_args 0 [.long x, .int xk]) [] h Q := by
  have ex : xk = Int32.ofInt (v : Int) := by rw [← hk, Int32.ofInt_toInt]
  have key := bs_has (x := x) hv
  refine s_has M rfl rfl hk (fun z q c => g z ?_) (fun z q c => g z ?_)
  · rw [ex] at c
    rw [q, if_neg (fun y => c (lg_0.mpr (key.mpr y)))]
  · rw [ex] at c
    rw [q, if_pos (key.mp (lg_0.mp c))]
end
-- a node's holders, bit by bit
theorem hd_wB {O : WKt} {x : Int64} {w j : Nat} {L : Nat → Int64} : ∀ i : Nat, bs (hd_w O x i L j) w = true ↔ (bs (L j) w = true ∨ (bs x w = true ∧ ∃ k, k < i ∧ j = (O.2.1 k).toNat))
  | 0 => by
    show bs (L j) w = true ↔ _
    constructor
    · exact Or.inl
    · rintro (h | ⟨-, k, hk, -⟩)
      · exact h
      · omega
  | i + 1 => by
    have ih := hd_wB (O := O) (x := x) (w := w) (j := j) (L := L) i
    show bs (if j = (O.2.1 i).toNat then hd_w O x i L j ||| x else hd_w O x i L j) w = true ↔ _
    by_cases c : j = (O.2.1 i).toNat
    · rw [if_pos c, bs_or, Bool.or_eq_true, ih]
      constructor
      · rintro ((h | ⟨h, k, hk, e⟩) | h)
        · exact Or.inl h
        · exact Or.inr ⟨h, k, by omega, e⟩
        · exact Or.inr ⟨h, i, by omega, c⟩
      · rintro (h | ⟨h, -⟩)
        · exact Or.inl (Or.inl h)
        · exact Or.inr h
    · rw [if_neg c, ih]
      constructor
      · rintro (h | ⟨h, k, hk, e⟩)
        · exact Or.inl h
        · exact Or.inr ⟨h, k, by omega, e⟩
      · rintro (h | ⟨h, k, hk, e⟩)
        · exact Or.inl h
        · by_cases e2 : k = i
          · subst e2
            exact absurd e c
          · exact Or.inr ⟨h, k, by omega, e⟩
theorem hd_nB {S : PSt} {f : Int → Nat → Int} {L : Nat → Int64} {w j : Nat} (hw : w < 64) : ∀ u : Nat, u ≤ 41 → (bs (hd_n S f L u j) w = true ↔ (bs (L j) w = true ∨ (w < u ∧ ∃ k, k < (wk_all S (f (w : Int))).1 ∧ j = ((wk_all S (f (w : Int))).2.1 k).toNat)))
  | 0, _ => by
    show bs (L j) w = true ↔ _
    constructor
    · exact Or.inl
    · rintro (h | ⟨h, -⟩)
      · exact h
      · omega
  | u + 1, hu => by
    have ih := hd_nB (S := S) (f := f) (L := L) (w := w) (j := j) hw u (by omega)
    show bs (hd_w (wk_all S (f (u : Int))) (bt (u : Int)) (wk_all S (f (u : Int))).1 (hd_n S f L u) j) w = true ↔ _
    rw [hd_wB, ih, bs_bt (by omega) hw, decide_eq_true_iff]
    constructor
    · rintro ((h | ⟨h1, h2⟩) | ⟨e, h2⟩)
      · exact Or.inl h
      · exact Or.inr ⟨by omega, h2⟩
      · subst e
        exact Or.inr ⟨by omega, h2⟩
    · rintro (h | ⟨h1, h2⟩)
      · exact Or.inl (Or.inl h)
      · by_cases e : w = u
        · subst e
          exact Or.inr ⟨rfl, h2⟩
        · exact Or.inl (Or.inr ⟨by omega, h2⟩)
theorem hd_B {Y : RYt} {w j : Nat} (hv : ry_v Y ≤ 41) (hw : w < 64) : bs (hd_Y Y j) w = true ↔ (w < ry_v Y ∧ ∃ k, k < (wk_all (ry_s Y) (ry_h Y (w : Int))).1 ∧ j = ((wk_all (ry_s Y) (ry_h Y (w : Int))).2.1 k).toNat) := by
  unfold hd_Y
  rw [hd_nB hw _ hv, bs_0]
  constructor
  · rintro (h | h)
    · exact absurd h (by decide)
    · exact h
  · exact Or.inr
-- A SET OF VERSIONS: none beyond those that are there
def am_t (x : Int64) (n : Nat) : Prop := ∀ w, n ≤ w → w < 64 → bs x w = false
theorem z_sh41 : ∀ v : Fin 42, ((Int32.ofInt (v.val : Int)).toInt64 &&& 63).toBitVec.smod (BitVec.ofNat 64 64) = BitVec.ofNat 64 v.val := by decide +kernel
theorem sr_B {x : Int64} {n : Nat} (hn : n ≤ 41) : (x >>> ((Int32.ofInt (n : Int)).toInt64 &&& 63)).toBitVec = x.toBitVec.sshiftRight n := by
  have e2 := z_sh41 ⟨n, by omega⟩
  dsimp only at e2
  rw [Int64.toBitVec_shiftRight]
  show x.toBitVec.sshiftRight' (((Int32.ofInt (n : Int)).toInt64 &&& 63).toBitVec.smod (BitVec.ofNat 64 64)) = _
  rw [e2]
  show x.toBitVec.sshiftRight (BitVec.ofNat 64 n).toNat = _
  rw [BitVec.toNat_ofNat, Nat.mod_eq_of_lt (by omega)]
theorem bs_ng : ∀ n : Fin 42, ∀ w : Fin 64, (-(bt (n.val : Int))).toBitVec.getLsbD w.val = decide (n.val ≤ w.val) := by decide +kernel
theorem am_ha {x : Int64} {n : Nat} (hn : n ≤ 41) : x &&& (-(bt (n : Int))) = Int64.ofNat (0 : Fin 2).val ↔ am_t x n := by
  have ng : ∀ w, w < 64 → bs (-(bt (n : Int))) w = decide (n ≤ w) := fun w h2 => bs_ng ⟨n, by omega⟩ ⟨w, h2⟩
  constructor
  · intro e w h1 h2
    have q : bs (x &&& (-(bt (n : Int)))) w = bs (Int64.ofNat (0 : Fin 2).val) w := by rw [e]
    rw [bs_and, bs_0, ng w h2] at q
    simpa [h1] using q
  · intro a
    apply bs_ext
    intro w h2
    rw [bs_and, bs_0, ng w h2]
    by_cases c : n ≤ w
    · rw [a w c h2]
      rfl
    · simp [c]
theorem am_msb {x : Int64} {n : Nat} (hn : n ≤ 41) (a : am_t x n) : x.toBitVec.msb = false := by
  rw [BitVec.msb_eq_getLsbD_last]
  exact a 63 (by omega) (by decide)
theorem am_sr {x : Int64} {n : Nat} (hn : n ≤ 41) : x >>> ((Int32.ofInt (n : Int)).toInt64 &&& 63) = Int64.ofNat (0 : Fin 2).val ↔ am_t x n := by
  constructor
  · intro e w h1 h2
    have q := congrArg (fun z : Int64 => z.toBitVec.getLsbD (w - n)) e
    rw [sr_B hn] at q
    have q : (x.toBitVec.sshiftRight n).getLsbD (w - n) = (0#64).getLsbD (w - n) := q
    rw [BitVec.getLsbD_sshiftRight, BitVec.getLsbD_zero] at q
    show x.toBitVec.getLsbD w = false
    simpa [Nat.add_sub_cancel' h1, h2, show ¬ 64 ≤ w - n by omega] using q
  · intro a
    have m := am_msb hn a
    apply Int64.toBitVec_inj.1
    rw [sr_B hn]
    show x.toBitVec.sshiftRight n = 0#64
    apply BitVec.eq_of_getLsbD_eq
    intro i hi
    rw [BitVec.getLsbD_sshiftRight, BitVec.getLsbD_zero]
    by_cases c : n + i < 64
    · have b : x.toBitVec.getLsbD (n + i) = false := a (n + i) (by omega) c
      rw [if_pos c, b, Bool.and_false]
    · rw [if_neg c, m, Bool.and_false]
theorem am_pos {x : Int64} {n : Nat} (hn : n ≤ 41) (a : am_t x n) : ¬ (lg_cmp x (Int64.ofNat (0 : Fin 2).val)).toInt < 0 := by
  have m := am_msb hn a
  have t : 0 ≤ x.toInt := by
    have k : x.toBitVec.msb = decide (x.toBitVec.toInt < 0) := BitVec.msb_eq_toInt
    rw [m] at k
    have k2 : ¬ x.toBitVec.toInt < 0 := of_decide_eq_false k.symm
    have k3 : x.toInt = x.toBitVec.toInt := rfl
    omega
  unfold lg_cmp
  split
  · decide
  · split
    · decide
    · next h1 h2 =>
      exfalso
      have z : (Int64.ofNat (0 : Fin 2).val).toInt = 0 := by decide
      have h1 : ¬ (Int64.ofNat (0 : Fin 2).val) < x := h1
      rw [Int64.lt_iff_toInt_lt, z] at h1
      exact h2 (Int64.toInt_inj.1 (by rw [z]; omega))
section
variable {lv : List (Nat × Value)} {Q : Option Value → MH → Prop} {W : List (Nat × Nat)} {ρ : Nat → Nat} {m : Nat} {A : Nat → Nat} {h0 h : MH} {F : Nat → Int} {V : Nat → Nat → Int} {G : Nat → Nat → Int64}
theorem s_kb0 (M : MX 49 W ρ m A h0 h F V G) (e0 : m_lk lv 0 = some (.ref m)) {lx1 : Int64} (e1 : m_lk lv 1 = some (.long lx1)) 
    (g0 : ∀ x1 : Int32, x1.toInt = 0 → ∀ x3 : Int32, x3.toInt = 0 → ∀ lv4 : List (Nat × Value), m_lk lv4 0 = some (.ref m) → m_lk lv4 1 = some (.long lx1) → m_lk lv4 3 = some (.int x1) → m_lk lv4 4 = some (.int x3) → HJ 246 5 lv4 [] h Q)
    : HJ 246 0 lv [] h Q := by
  refine hM_ic (n := 0) rfl (by decide) rfl (fun x1 q1 => ?_) -- 0
  refine hM_si (k := 3) rfl (by decide +kernel) rfl (fun lv2 e2_3 u2 => ?_) -- 1
  have e2_0 := u2 0 _ (by decide) (Or.inl rfl) e0
  have e2_1 := u2 1 _ (by decide) (Or.inr (by decide)) e1
  refine hM_ic (n := 0) rfl (by decide) rfl (fun x3 q3 => ?_) -- 2
  refine hM_si2 (k := 4) rfl (by decide +kernel) rfl (fun lv4 e4_4 u4 => ?_) -- 3
  have e4_0 := u4 0 _ (by decide) (Or.inl rfl) e2_0
  have e4_1 := u4 1 _ (by decide) (Or.inr (by decide)) e2_1
  have e4_3 := u4 3 _ (by decide) (Or.inl rfl) e2_3
  exact g0 x1 q1 x3 q3 lv4 e4_0 e4_1 e4_3 e4_4
theorem s_kb5 {c i : Int} (M : MX 49 W ρ m A h0 h F V G) (e0 : m_lk lv 0 = some (.ref m)) {lx1 : Int64} (e1 : m_lk lv 1 = some (.long lx1)) {lx3 : Int32} (e3 : m_lk lv 3 = some (.int lx3)) (lq3 : lx3.toInt = c) {lx4 : Int32} (e4 : m_lk lv 4 = some (.int lx4)) (lq4 : lx4.toInt = i) (i0 : 0 ≤ i) (c0 : 0 ≤ c) (c1 : c ≤ i) (n1 : F 17 ≤ 16000)
    (g0 : 0 ≤ F 17 → F 17 ≤ 16000 → i ≥ F 17 → Q (some (.int lx3)) h)
    (g1 : ∀ x5 : Int32, x5.toInt = c + 0 → ∀ x7 : Int32, x7.toInt = i + 1 → ∀ lv7 : List (Nat × Value), m_lk lv7 0 = some (.ref m) → m_lk lv7 1 = some (.long lx1) → m_lk lv7 3 = some (.int x5) → m_lk lv7 4 = some (.int x7) → 0 ≤ F 17 → F 17 ≤ 16000 → i < F 17 → (lg_cmp ((G 42 (i).toNat) &&& lx1) (Int64.ofNat (0 : Fin 2).val)).toInt = 0 → HJ 246 5 lv7 [] h Q)
    (g2 : ∀ x9 : Int32, x9.toInt = c + 1 → ∀ x11 : Int32, x11.toInt = i + 1 → ∀ lv11 : List (Nat × Value), m_lk lv11 0 = some (.ref m) → m_lk lv11 1 = some (.long lx1) → m_lk lv11 3 = some (.int x9) → m_lk lv11 4 = some (.int x11) → 0 ≤ F 17 → F 17 ≤ 16000 → i < F 17 → (lg_cmp ((G 42 (i).toNat) &&& lx1) (Int64.ofNat (0 : Fin 2).val)).toInt ≠ 0 → HJ 246 5 lv11 [] h Q)
    : HJ 246 5 lv [] h Q := by
  refine hI_il2 (k := 4) rfl e4 rfl ?_ -- 5
  refine hI_al (k := 0) rfl e0 rfl ?_ -- 7
  refine hM_gi M (by decide) rfl rfl rfl (k := 17) (c := 9) (lo := 0) (hi := 16000) rfl rfl rfl rfl rfl (fun x1 q1 a1 b1 => ?_) -- 8
  refine hM_cge (off := 31) (t := 42) rfl lq4 q1 (by decide) rfl (fun c11 => ?_) (fun c11 => ?_) -- 11
  · refine hI_il (k := 3) rfl e3 rfl ?_ -- 42
    refine hI_ri rfl rfl ?_ -- 43
    exact g0 a1 b1 c11
  · refine hI_il (k := 3) rfl e3 rfl ?_ -- 14
    refine hI_al (k := 0) rfl e0 rfl ?_ -- 15
    refine hM_ga M (by decide) rfl rfl (k := 42) (c := 9) rfl rfl rfl (by decide +kernel) rfl ?_ -- 16
    refine hI_il2 (k := 4) rfl e4 rfl ?_ -- 19
    refine hM_la M (by decide) (K := 42) (R2 := 77) (L := 16000) (H := 16000) rfl (by decide) rfl rfl rfl lq4 (by omega) (by omega) rfl ?_ -- 21
    refine hI_ll (k := 1) rfl e1 rfl ?_ -- 22
    refine hI_land rfl rfl ?_ -- 23
    refine hI_lc (n := 0) rfl rfl ?_ -- 24
    refine hM_lcmp rfl rfl (fun x3 q3 => ?_) -- 25
    refine hM_zeq (off := 7) (t := 33) rfl q3 (by decide) rfl (fun c26 => ?_) (fun c26 => ?_) -- 26
    · refine hM_ic (n := 0) rfl (by decide) rfl (fun x4 q4 => ?_) -- 33
      refine hM_add rfl lq3 q4 (by omega) (by omega) rfl (fun x5 q5 => ?_) -- 34
      refine hM_si (k := 3) rfl (by decide +kernel) rfl (fun lv6 e6_3 u6 => ?_) -- 35
      have e6_0 := u6 0 _ (by decide) (Or.inl rfl) e0
      have e6_1 := u6 1 _ (by decide) (Or.inr (by decide)) e1
      have e6_4 := u6 4 _ (by decide) (Or.inl rfl) e4
      refine hM_inc (k := 4) (z := 1) rfl e6_4 lq4 (by decide) (by omega) (by omega) (by decide +kernel) rfl (fun lv7 x7 q7 e7_4 u7 => ?_) -- 36
      have e7_0 := u7 0 _ (by decide) (Or.inl rfl) e6_0
      have e7_1 := u7 1 _ (by decide) (Or.inr (by decide)) e6_1
      have e7_3 := u7 3 _ (by decide) (Or.inl rfl) e6_3
      refine hI_go (pc' := 5) (off := (-34)) rfl (by decide) ?_ -- 39
      exact g1 x5 q5 x7 q7 lv7 e7_0 e7_1 e7_3 e7_4 a1 b1 c11 c26
    · refine hM_ic (n := 1) rfl (by decide) rfl (fun x8 q8 => ?_) -- 29
      refine hI_go (pc' := 34) (off := 4) rfl (by decide) ?_ -- 30
      refine hM_add rfl lq3 q8 (by omega) (by omega) rfl (fun x9 q9 => ?_) -- 34
      refine hM_si (k := 3) rfl (by decide +kernel) rfl (fun lv10 e10_3 u10 => ?_) -- 35
      have e10_0 := u10 0 _ (by decide) (Or.inl rfl) e0
      have e10_1 := u10 1 _ (by decide) (Or.inr (by decide)) e1
      have e10_4 := u10 4 _ (by decide) (Or.inl rfl) e4
      refine hM_inc (k := 4) (z := 1) rfl e10_4 lq4 (by decide) (by omega) (by omega) (by decide +kernel) rfl (fun lv11 x11 q11 e11_4 u11 => ?_) -- 36
      have e11_0 := u11 0 _ (by decide) (Or.inl rfl) e10_0
      have e11_1 := u11 1 _ (by decide) (Or.inr (by decide)) e10_1
      have e11_3 := u11 3 _ (by decide) (Or.inl rfl) e10_3
      refine hI_go (pc' := 5) (off := (-34)) rfl (by decide) ?_ -- 39
      exact g2 x9 q9 x11 q11 lv11 e11_0 e11_1 e11_3 e11_4 a1 b1 c11 c26
theorem c_areT {x : Int64} {n : Nat} (M : MX 49 W ρ m A h0 h F V G) (f35 : F 35 = (n : Int)) (n41 : n ≤ 41) (g : ∀ z : Int32, ((am_t x n ∧ z.toInt = 1) ∨ (¬ am_t x n ∧ z.toInt = 0)) → Q (some (.int z)) h) : HJ 245 0 (lv_args 0 [.ref m, .long x]) [] h Q := by
  refine s_are M rfl rfl (fun x2 q2 c => g x2 (Or.inr ⟨fun a => am_pos n41 a c, q2⟩)) (fun x3 q3 x5 q5 _ _ _ c => g x5 (Or.inr ⟨fun a => c ?_, q5⟩)) (fun x3 q3 x6 q6 _ _ _ c => g x6 (Or.inl ⟨?_, q6⟩))
  · have e : x3 = Int32.ofInt (n : Int) := by rw [← f35, ← q3, Int32.ofInt_toInt]
    rw [e]
    exact lg_0.mpr ((am_sr n41).mpr a)
  · have e : x3 = Int32.ofInt (n : Int) := by rw [← f35, ← q3, Int32.ofInt_toInt]
    rw [e] at c
    exact (am_sr n41).mp (lg_0.mp c)
theorem l_kb {x : Int64} {n : Nat} {L : Nat → Int64} (M : MX 49 W ρ m A h0 h F V G) (f17 : F 17 = (n : Int)) (n1 : n ≤ 15120) (hL : ∀ j, j < n → G 42 j = L j) (g : ∀ y : Int32, y.toInt = (ch_n (ch_any x) L n : Int) → Q (some (.int y)) h) : ∀ (d i : Nat) (lv : List (Nat × Value)) (xc xi : Int32), i + d = n → xc.toInt = (ch_n (ch_any x) L i : Int) → xi.toInt = (i : Int) → m_lk lv 0 = some (.ref m) → m_lk lv 1 = some (.long x) → m_lk lv 3 = some (.int xc) → m_lk lv 4 = some (.int xi) → HJ 246 5 lv [] h Q := by
  intro d
  induction d with
  | zero =>
    intro i lv xc xi hd qc qi e0 e1 e3 e4
    have cl := ch_L (p := ch_any x) (L := L) i
    have ei : i = n := by omega
    subst ei
    exact s_kb5 M e0 e1 e3 qc e4 qi (by omega) (by omega) (by omega) (by omega) (fun _ _ _ => g xc qc) (fun _ _ _ _ _ _ _ _ _ _ _ c _ => absurd c (by omega)) (fun _ _ _ _ _ _ _ _ _ _ _ c _ => absurd c (by omega))
  | succ d ih =>
    intro i lv xc xi hd qc qi e0 e1 e3 e4
    have cl := ch_L (p := ch_any x) (L := L) i
    have eL : G 42 ((i : Int)).toNat = L i := hL i (by omega)
    refine s_kb5 M e0 e1 e3 qc e4 qi (by omega) (by omega) (by omega) (by omega) (fun _ _ c => absurd c (by omega)) (fun x5 q5 x7 q7 lv7 a0 a1 a3 a4 _ _ _ c => ?_) (fun x5 q5 x7 q7 lv7 a0 a1 a3 a4 _ _ _ c => ?_)
    · rw [eL] at c
      refine ih (i + 1) lv7 x5 x7 (by omega) ?_ (by omega) a0 a1 a3 a4
      rw [ch_n, if_neg (fun y => ch_anyT.mp y (lg_0.mp c))]
      omega
    · rw [eL] at c
      refine ih (i + 1) lv7 x5 x7 (by omega) ?_ (by omega) a0 a1 a3 a4
      rw [ch_n, if_pos (ch_anyT.mpr (fun y => c (lg_0.mpr y)))]
      omega
theorem c_kb {x : Int64} {n : Nat} {L : Nat → Int64} (M : MX 49 W ρ m A h0 h F V G) (f17 : F 17 = (n : Int)) (n1 : n ≤ 15120) (hL : ∀ j, j < n → G 42 j = L j) (g : ∀ y : Int32, y.toInt = (ch_n (ch_any x) L n : Int) → Q (some (.int y)) h) : HJ 246 0 (lv_args 0 [.ref m, .long x]) [] h Q :=
  s_kb0 M rfl rfl (fun x1 q1 x3 q3 lv4 a0 a1 a3 a4 => l_kb M f17 n1 hL g n 0 lv4 x1 x3 (by omega) q1 q3 a0 a1 a3 a4)
end
section
variable {Q : Option Value → MH → Prop} {h : MH}
theorem k_haT {pa n : Nat} {x : Int64} (kp : (h_k h pa).1 = 4) (es : z_i h pa 11 + 1 = (n : Int)) (n1 : 1 ≤ n) (n41 : n ≤ 41) (g : ∀ z : Int32, ((am_t x n ∧ z.toInt = 1) ∨ (¬ am_t x n ∧ z.toInt = 0)) → Q (some (.int z)) h) : HJ 150 0 (lv_args 0 [.ref pa, .long x]) [] h Q := by
  have M := RX.start h
  refine r_ha0 M rfl rfl (by show 0 ≤ z_i h pa 11; omega) (by show z_i h pa 11 ≤ 40; omega) kp (fun x3 q3 => ?_)
  refine k_bit M (v := (n : Int)) (q3.trans es) ?_
  refine r_ha10 M (fun z q c => g z (Or.inr ⟨fun a => c (lg_0.mpr ((am_ha n41).mpr a)), q⟩)) (fun z q c => g z (Or.inl ⟨(am_ha n41).mp (lg_0.mp c), q⟩))
end
-- HOW MANY BITS a long has, as the library counts them
def mb_ (m : Nat) : Nat → Nat
  | 0 => 0
  | j + 1 => m + 256 * mb_ m j
def sb_ (g : Nat → Nat) : Nat → Nat → Nat
  | 0, _ => 0
  | j + 1, n => g (n % 256) + 256 * sb_ g j (n / 256)
theorem an_256 (a m M : Nat) (hm : m < 256) : a &&& (m + 256 * M) = (a % 256 &&& m) + 256 * (a / 256 &&& M) := by
  have h := Nat.div_add_mod (a &&& (m + 256 * M)) 256
  have e1 : (a &&& (m + 256 * M)) % 256 = a % 256 &&& m := by
    have t : (a &&& (m + 256 * M)) % 2 ^ 8 = (a % 2 ^ 8) &&& ((m + 256 * M) % 2 ^ 8) := Nat.and_mod_two_pow
    rw [show (2 : Nat) ^ 8 = 256 from rfl, show (m + 256 * M) % 256 = m by omega] at t
    exact t
  have e2 : (a &&& (m + 256 * M)) / 256 = a / 256 &&& M := by
    have t : (a &&& (m + 256 * M)) / 2 ^ 8 = (a / 2 ^ 8) &&& ((m + 256 * M) / 2 ^ 8) := Nat.and_div_two_pow
    rw [show (2 : Nat) ^ 8 = 256 from rfl, show (m + 256 * M) / 256 = M by omega] at t
    exact t
  rw [e1, e2] at h
  omega
def pg1 (t : Nat) : Nat := t - (t / 2 &&& 85)
def pg2 (t : Nat) : Nat := (t &&& 51) + (t / 4 &&& 51)
def pg3 (t : Nat) : Nat := (t + t / 16) &&& 15
def pn_ (N : Nat) : Nat → Nat
  | 0 => 0
  | w + 1 => pn_ N w + N / 2 ^ w % 2
theorem zb_1 : ∀ t : Fin 256, ∀ b : Fin 2, ((t.val / 2 + 128 * b.val) &&& 85) = (t.val / 2 &&& 85) := by decide +kernel
theorem zb_2 : ∀ t : Fin 256, ∀ b : Fin 4, ((t.val / 4 + 64 * b.val) &&& 51) = (t.val / 4 &&& 51) := by decide +kernel
theorem zb_3 : ∀ t : Fin 256, ∀ b : Fin 16, ((t.val + 16 * b.val) &&& 15) = (t.val &&& 15) := by decide +kernel
theorem zb_4 : ∀ t : Fin 256, pg3 (pg2 (pg1 t.val)) = pn_ t.val 8 := by decide +kernel
theorem zb_5 : ∀ t : Fin 256, pg1 t.val < 256 ∧ pg2 (pg1 t.val) / 16 ≤ 4 ∧ pg2 (pg1 t.val) % 16 ≤ 4 := by decide +kernel
theorem zb_6 : ∀ t : Fin 256, pn_ t.val 8 ≤ 8 := by decide +kernel
theorem sb_1 : ∀ j n, n < 256 ^ j → n - (n / 2 &&& mb_ 85 j) = sb_ pg1 j n
  | 0, n, h => by
    have e : n = 0 := by
      have h : n < 1 := h
      omega
    subst e
    rfl
  | j + 1, n, h => by
    have hy : n / 256 < 256 ^ j := by
      rw [Nat.pow_succ] at h
      omega
    have ih := sb_1 j (n / 256) hy
    show n - (n / 2 &&& (85 + 256 * mb_ 85 j)) = pg1 (n % 256) + 256 * sb_ pg1 j (n / 256)
    rw [an_256 _ _ _ (by decide), ← ih]
    have c : ((n % 256 / 2 + 128 * (n / 256 % 2)) &&& 85) = (n % 256 / 2 &&& 85) := zb_1 ⟨n % 256, by omega⟩ ⟨n / 256 % 2, by omega⟩
    rw [show n / 2 % 256 = n % 256 / 2 + 128 * (n / 256 % 2) by omega, show n / 2 / 256 = n / 256 / 2 by omega, c]
    have l1 : (n % 256 / 2 &&& 85) ≤ n % 256 / 2 := Nat.and_le_left
    have l2 : (n / 256 / 2 &&& mb_ 85 j) ≤ n / 256 / 2 := Nat.and_le_left
    show _ = n % 256 - (n % 256 / 2 &&& 85) + 256 * (n / 256 - (n / 256 / 2 &&& mb_ 85 j))
    omega
theorem sb_2 : ∀ j n, (n &&& mb_ 51 j) + (n / 4 &&& mb_ 51 j) = sb_ pg2 j n
  | 0, n => by
    show (n &&& 0) + (n / 4 &&& 0) = 0
    rw [Nat.and_zero, Nat.and_zero]
  | j + 1, n => by
    have ih := sb_2 j (n / 256)
    show (n &&& (51 + 256 * mb_ 51 j)) + (n / 4 &&& (51 + 256 * mb_ 51 j)) = pg2 (n % 256) + 256 * sb_ pg2 j (n / 256)
    rw [an_256 n _ _ (by decide), an_256 (n / 4) _ _ (by decide), ← ih]
    have c : ((n % 256 / 4 + 64 * (n / 256 % 4)) &&& 51) = (n % 256 / 4 &&& 51) := zb_2 ⟨n % 256, by omega⟩ ⟨n / 256 % 4, by omega⟩
    rw [show n / 4 % 256 = n % 256 / 4 + 64 * (n / 256 % 4) by omega, show n / 4 / 256 = n / 256 / 4 by omega, c]
    show _ = (n % 256 &&& 51) + (n % 256 / 4 &&& 51) + 256 * ((n / 256 &&& mb_ 51 j) + (n / 256 / 4 &&& mb_ 51 j))
    omega
theorem sb_m {f : Nat → Nat} (hf : ∀ t, t < 256 → f t / 16 ≤ 4 ∧ f t % 16 ≤ 4) : ∀ j n, sb_ f j n % 16 ≤ 4
  | 0, _ => by
    show 0 % 16 ≤ 4
    decide
  | j + 1, n => by
    have := hf (n % 256) (by omega)
    show (f (n % 256) + 256 * sb_ f j (n / 256)) % 16 ≤ 4
    omega
theorem sb_3 {f : Nat → Nat} (hf : ∀ t, t < 256 → f t / 16 ≤ 4 ∧ f t % 16 ≤ 4) : ∀ j n, (sb_ f j n + sb_ f j n / 16) &&& mb_ 15 j = sb_ (fun t => pg3 (f t)) j n
  | 0, n => by
    show (0 + 0 / 16) &&& 0 = 0
    rfl
  | j + 1, n => by
    have ih := sb_3 hf j (n / 256)
    have h1 := hf (n % 256) (by omega)
    have h2 := sb_m hf j (n / 256)
    show ((f (n % 256) + 256 * sb_ f j (n / 256)) + (f (n % 256) + 256 * sb_ f j (n / 256)) / 16) &&& (15 + 256 * mb_ 15 j) = pg3 (f (n % 256)) + 256 * sb_ (fun t => pg3 (f t)) j (n / 256)
    rw [an_256 _ _ _ (by decide), ← ih]
    generalize f (n % 256) = a at *
    generalize sb_ f j (n / 256) = X at *
    have c : ((a + a / 16 + 16 * (X % 16)) &&& 15) = ((a + a / 16) &&& 15) := zb_3 ⟨a + a / 16, by omega⟩ ⟨X % 16, by omega⟩
    rw [show (a + 256 * X + (a + 256 * X) / 16) % 256 = a + a / 16 + 16 * (X % 16) by omega, show (a + 256 * X + (a + 256 * X) / 16) / 256 = X + X / 16 by omega, c]
    rfl
theorem sb_c {f g : Nat → Nat} (hf : ∀ t, t < 256 → f t < 256) : ∀ j n, sb_ g j (sb_ f j n) = sb_ (fun t => g (f t)) j n
  | 0, _ => rfl
  | j + 1, n => by
    have h1 := hf (n % 256) (by omega)
    show g ((f (n % 256) + 256 * sb_ f j (n / 256)) % 256) + 256 * sb_ g j ((f (n % 256) + 256 * sb_ f j (n / 256)) / 256) = g (f (n % 256)) + 256 * sb_ (fun t => g (f t)) j (n / 256)
    rw [← sb_c hf j (n / 256), show (f (n % 256) + 256 * sb_ f j (n / 256)) % 256 = f (n % 256) by omega, show (f (n % 256) + 256 * sb_ f j (n / 256)) / 256 = sb_ f j (n / 256) by omega]
theorem sb_e {f g : Nat → Nat} (hf : ∀ t, t < 256 → f t = g t) : ∀ j n, sb_ f j n = sb_ g j n
  | 0, _ => rfl
  | j + 1, n => by
    show f (n % 256) + 256 * sb_ f j (n / 256) = g (n % 256) + 256 * sb_ g j (n / 256)
    rw [sb_e hf j, hf _ (by omega)]
theorem pn_8 (N : Nat) : pn_ N 8 = pn_ (N % 256) 8 := by
  simp only [pn_]
  omega
theorem pn_s (N : Nat) : ∀ m, pn_ N (8 + m) = pn_ N 8 + pn_ (N / 256) m
  | 0 => rfl
  | m + 1 => by
    show pn_ N (8 + m) + N / 2 ^ (8 + m) % 2 = pn_ N 8 + (pn_ (N / 256) m + N / 256 / 2 ^ m % 2)
    rw [pn_s N m, Nat.div_div_eq_div_mul, show 256 * 2 ^ m = 2 ^ (8 + m) by rw [Nat.pow_add]]
    omega
theorem zd_1 {s0 s1 s2 s3 B : Nat} (h0 : s0 ≤ 64) (h1 : s1 ≤ 64) (h2 : s2 ≤ 64) (h3 : s3 ≤ 64) : (s0 + 256 * (s1 + 256 * (s2 + 256 * (s3 + 256 * B)))) / 2 ^ 32 = B := by omega
theorem zd_2 {s t X Z : Nat} (h : s + t ≤ 127) : (s + 256 * X + (t + 256 * Z)) % 128 = s + t := by omega
theorem pn_64 (N : Nat) : sb_ (fun t => pn_ t 8) 8 N = (fun y3 => y3) (sb_ (fun t => pn_ t 8) 8 N) ∧ (fun y4 => (fun y5 => (fun y6 : Nat => y6 % 128 = pn_ N 64 ∧ y6 < 2 ^ 64) (y5 + y5 / 2 ^ 32) ∧ y5 < 2 ^ 63) (y4 + y4 / 2 ^ 16) ∧ y4 < 2 ^ 63) (sb_ (fun t => pn_ t 8) 8 N + sb_ (fun t => pn_ t 8) 8 N / 2 ^ 8) := by
  refine ⟨rfl, ?_⟩
  have e : pn_ N 64 = pn_ (N % 256) 8 + (pn_ (N / 256 % 256) 8 + (pn_ (N / 256 / 256 % 256) 8 + (pn_ (N / 256 / 256 / 256 % 256) 8 + (pn_ (N / 256 / 256 / 256 / 256 % 256) 8 + (pn_ (N / 256 / 256 / 256 / 256 / 256 % 256) 8 + (pn_ (N / 256 / 256 / 256 / 256 / 256 / 256 % 256) 8 + pn_ (N / 256 / 256 / 256 / 256 / 256 / 256 / 256 % 256) 8)))))) := by
    rw [show (64 : Nat) = 8 + 56 from rfl, pn_s, show (56 : Nat) = 8 + 48 from rfl, pn_s, show (48 : Nat) = 8 + 40 from rfl, pn_s, show (40 : Nat) = 8 + 32 from rfl, pn_s, show (32 : Nat) = 8 + 24 from rfl, pn_s, show (24 : Nat) = 8 + 16 from rfl, pn_s, show (16 : Nat) = 8 + 8 from rfl, pn_s]
    rw [pn_8 N, pn_8 (N / 256), pn_8 (N / 256 / 256), pn_8 (N / 256 / 256 / 256), pn_8 (N / 256 / 256 / 256 / 256), pn_8 (N / 256 / 256 / 256 / 256 / 256), pn_8 (N / 256 / 256 / 256 / 256 / 256 / 256), pn_8 (N / 256 / 256 / 256 / 256 / 256 / 256 / 256)]
  have b : ∀ t, pn_ (t % 256) 8 ≤ 8 := fun t => zb_6 ⟨t % 256, by omega⟩
  have b0 := b N
  have b1 := b (N / 256)
  have b2 := b (N / 256 / 256)
  have b3 := b (N / 256 / 256 / 256)
  have b4 := b (N / 256 / 256 / 256 / 256)
  have b5 := b (N / 256 / 256 / 256 / 256 / 256)
  have b6 := b (N / 256 / 256 / 256 / 256 / 256 / 256)
  have b7 := b (N / 256 / 256 / 256 / 256 / 256 / 256 / 256)
  have s : sb_ (fun t => pn_ t 8) 8 N = pn_ (N % 256) 8 + 256 * (pn_ (N / 256 % 256) 8 + 256 * (pn_ (N / 256 / 256 % 256) 8 + 256 * (pn_ (N / 256 / 256 / 256 % 256) 8 + 256 * (pn_ (N / 256 / 256 / 256 / 256 % 256) 8 + 256 * (pn_ (N / 256 / 256 / 256 / 256 / 256 % 256) 8 + 256 * (pn_ (N / 256 / 256 / 256 / 256 / 256 / 256 % 256) 8 + 256 * (pn_ (N / 256 / 256 / 256 / 256 / 256 / 256 / 256 % 256) 8 + 256 * 0))))))) := rfl
  rw [e, s]
  clear e s b
  generalize pn_ (N % 256) 8 = c0 at *
  generalize pn_ (N / 256 % 256) 8 = c1 at *
  generalize pn_ (N / 256 / 256 % 256) 8 = c2 at *
  generalize pn_ (N / 256 / 256 / 256 % 256) 8 = c3 at *
  generalize pn_ (N / 256 / 256 / 256 / 256 % 256) 8 = c4 at *
  generalize pn_ (N / 256 / 256 / 256 / 256 / 256 % 256) 8 = c5 at *
  generalize pn_ (N / 256 / 256 / 256 / 256 / 256 / 256 % 256) 8 = c6 at *
  generalize pn_ (N / 256 / 256 / 256 / 256 / 256 / 256 / 256 % 256) 8 = c7 at *
  have p4 : c0 + 256 * (c1 + 256 * (c2 + 256 * (c3 + 256 * (c4 + 256 * (c5 + 256 * (c6 + 256 * (c7 + 256 * 0))))))) + (c0 + 256 * (c1 + 256 * (c2 + 256 * (c3 + 256 * (c4 + 256 * (c5 + 256 * (c6 + 256 * (c7 + 256 * 0)))))))) / 2 ^ 8 = (c0 + c1) + 256 * ((c1 + c2) + 256 * ((c2 + c3) + 256 * ((c3 + c4) + 256 * ((c4 + c5) + 256 * ((c5 + c6) + 256 * ((c6 + c7) + 256 * c7)))))) := by omega
  rw [p4]
  have p5 : (c0 + c1) + 256 * ((c1 + c2) + 256 * ((c2 + c3) + 256 * ((c3 + c4) + 256 * ((c4 + c5) + 256 * ((c5 + c6) + 256 * ((c6 + c7) + 256 * c7)))))) + ((c0 + c1) + 256 * ((c1 + c2) + 256 * ((c2 + c3) + 256 * ((c3 + c4) + 256 * ((c4 + c5) + 256 * ((c5 + c6) + 256 * ((c6 + c7) + 256 * c7))))))) / 2 ^ 16 = (c0 + c1 + c2 + c3) + 256 * ((c1 + c2 + c3 + c4) + 256 * ((c2 + c3 + c4 + c5) + 256 * ((c3 + c4 + c5 + c6) + 256 * ((c4 + c5 + c6 + c7) + 256 * ((c5 + c6 + c7) + 256 * ((c6 + c7) + 256 * c7)))))) := by omega
  refine ⟨?_, by omega⟩
  show ((fun y6 : Nat => y6 % 128 = _ ∧ y6 < 2 ^ 64) _) ∧ _
  rw [p5]
  refine ⟨⟨?_, by omega⟩, by omega⟩
  show (((c0 + c1 + c2 + c3) + 256 * ((c1 + c2 + c3 + c4) + 256 * ((c2 + c3 + c4 + c5) + 256 * ((c3 + c4 + c5 + c6) + 256 * ((c4 + c5 + c6 + c7) + 256 * ((c5 + c6 + c7) + 256 * ((c6 + c7) + 256 * c7))))))) + ((c0 + c1 + c2 + c3) + 256 * ((c1 + c2 + c3 + c4) + 256 * ((c2 + c3 + c4 + c5) + 256 * ((c3 + c4 + c5 + c6) + 256 * ((c4 + c5 + c6 + c7) + 256 * ((c5 + c6 + c7) + 256 * ((c6 + c7) + 256 * c7))))))) / 2 ^ 32) % 128 = _
  rw [zd_1 (by omega) (by omega) (by omega) (by omega), zd_2 (by omega)]
  omega
-- the long's own steps
theorem lu_N (x : Int64) {z : Int} {k : Nat} (hz : ((Int32.ofInt z).toInt64.toUInt64 &&& Int64.toUInt64 63).toNat % 64 = k) : (lu_sh x z).toBitVec.toNat = x.toBitVec.toNat / 2 ^ k := by
  show (x.toUInt64 >>> ((Int32.ofInt z).toInt64.toUInt64 &&& Int64.toUInt64 63)).toNat = _
  rw [UInt64.toNat_shiftRight, hz, Nat.shiftRight_eq_div_pow]
  rfl
def lb_1 (x : Int64) : Int64 := x - ((lu_sh x (1)) &&& (6148914691236517205))
def lb_2 (x : Int64) : Int64 := (x &&& (3689348814741910323)) + ((lu_sh x (2)) &&& (3689348814741910323))
def lb_3 (x : Int64) : Int64 := (x + (lu_sh x (4))) &&& (1085102592571150095)
def lb_4 (x : Int64) : Int64 := x + (lu_sh x (8))
def lb_5 (x : Int64) : Int64 := x + (lu_sh x (16))
def lb_6 (x : Int64) : Int64 := x + (lu_sh x (32))
theorem nl_64 (x : Int64) : x.toBitVec.toNat < 18446744073709551616 := x.toBitVec.isLt
theorem lb_N1 (x : Int64) : (lb_1 x).toBitVec.toNat = sb_ pg1 8 x.toBitVec.toNat := by
  have b := nl_64 x
  have q := sb_1 8 x.toBitVec.toNat (by
    have e : (256 : Nat) ^ 8 = 18446744073709551616 := by decide +kernel
    omega)
  have l2 : (x.toBitVec.toNat / 2 &&& mb_ 85 8) ≤ x.toBitVec.toNat / 2 := Nat.and_le_left
  have e1 : (6148914691236517205 : Int64).toBitVec.toNat = mb_ 85 8 := by decide +kernel
  have e2 : (lu_sh x (1)).toBitVec.toNat = x.toBitVec.toNat / 2 ^ 1 := lu_N x (by decide +kernel)
  unfold lb_1
  rw [Int64.toBitVec_sub, BitVec.toNat_sub, Int64.toBitVec_and, BitVec.toNat_and, e1, e2, show (2 : Nat) ^ 1 = 2 from rfl, show (2 : Nat) ^ 64 = 18446744073709551616 from rfl, ← q]
  omega
theorem sb_B {f : Nat → Nat} (hf : ∀ t, t < 256 → f t < 256) : ∀ j n, sb_ f j n < 256 ^ j
  | 0, _ => by
    show 0 < 1
    decide
  | j + 1, n => by
    have := hf (n % 256) (by omega)
    have := sb_B hf j (n / 256)
    show f (n % 256) + 256 * sb_ f j (n / 256) < 256 ^ (j + 1)
    rw [Nat.pow_succ]
    omega
theorem zb_7 : ∀ t : Fin 256, pg2 t.val < 256 := by decide +kernel
theorem lb_N2 (x : Int64) : (lb_2 x).toBitVec.toNat = sb_ pg2 8 x.toBitVec.toNat := by
  have q := sb_2 8 x.toBitVec.toNat
  have b := sb_B (f := pg2) (fun t ht => zb_7 ⟨t, ht⟩) 8 x.toBitVec.toNat
  have e : (256 : Nat) ^ 8 = 18446744073709551616 := by decide +kernel
  have e1 : (3689348814741910323 : Int64).toBitVec.toNat = mb_ 51 8 := by decide +kernel
  have e2 : (lu_sh x (2)).toBitVec.toNat = x.toBitVec.toNat / 2 ^ 2 := lu_N x (by decide +kernel)
  unfold lb_2
  rw [Int64.toBitVec_add, BitVec.toNat_add, Int64.toBitVec_and, BitVec.toNat_and, Int64.toBitVec_and, BitVec.toNat_and, e1, e2, show (2 : Nat) ^ 2 = 4 from rfl, show (2 : Nat) ^ 64 = 18446744073709551616 from rfl, q]
  omega
theorem lb_N3 (x : Int64) {f : Nat → Nat} {n : Nat} (hf : ∀ t, t < 256 → f t / 16 ≤ 4 ∧ f t % 16 ≤ 4) (hx : x.toBitVec.toNat = sb_ f 8 n) (hb : x.toBitVec.toNat < 9223372036854775808) : (lb_3 x).toBitVec.toNat = sb_ (fun t => pg3 (f t)) 8 n := by
  have q := sb_3 hf 8 n
  have e1 : (1085102592571150095 : Int64).toBitVec.toNat = mb_ 15 8 := by decide +kernel
  have e2 : (lu_sh x (4)).toBitVec.toNat = x.toBitVec.toNat / 2 ^ 4 := lu_N x (by decide +kernel)
  unfold lb_3
  rw [Int64.toBitVec_and, BitVec.toNat_and, Int64.toBitVec_add, BitVec.toNat_add, e1, e2, show (2 : Nat) ^ 4 = 16 from rfl, show (2 : Nat) ^ 64 = 18446744073709551616 from rfl, Nat.mod_eq_of_lt (by omega), hx]
  exact q
theorem sb_V {f : Nat → Nat} (hf : ∀ t, t < 256 → f t ≤ 127) (n : Nat) : sb_ f 8 n < 9223372036854775808 := by
  have h := hf (n / 256 / 256 / 256 / 256 / 256 / 256 / 256 % 256) (by omega)
  have h7 := sb_B (f := f) (fun t ht => by have := hf t ht; omega) 7 n
  have e7 : (256 : Nat) ^ 7 = 72057594037927936 := by decide +kernel
  have sp : ∀ j n, sb_ f (j + 1) n = sb_ f j n + 256 ^ j * f (n / 256 ^ j % 256) := by
    intro j
    induction j with
    | zero =>
      intro n
      show f (n % 256) + 256 * 0 = 0 + 1 * f (n / 1 % 256)
      rw [Nat.div_one]
      omega
    | succ j ih =>
      intro n
      show f (n % 256) + 256 * sb_ f (j + 1) (n / 256) = f (n % 256) + 256 * sb_ f j (n / 256) + 256 ^ (j + 1) * f (n / 256 ^ (j + 1) % 256)
      rw [ih, Nat.div_div_eq_div_mul, show 256 * 256 ^ j = 256 ^ (j + 1) by rw [Nat.pow_succ, Nat.mul_comm], Nat.mul_add, ← Nat.mul_assoc, show 256 * 256 ^ j = 256 ^ (j + 1) by rw [Nat.pow_succ, Nat.mul_comm]]
      omega
  have e8 := sp 7 n
  have h8 := hf (n / 256 ^ 7 % 256) (by omega)
  rw [e7] at h7
  rw [e8, e7]
  have : 72057594037927936 * f (n / 72057594037927936 % 256) ≤ 72057594037927936 * 127 := Nat.mul_le_mul_left _ (by rw [← e7]; exact h8)
  omega
def cb_n (x : Int64) : Nat → Nat
  | 0 => 0
  | w + 1 => cb_n x w + if bs x w = true then 1 else 0
theorem cb_pn (x : Int64) : ∀ w, cb_n x w = pn_ x.toBitVec.toNat w
  | 0 => rfl
  | w + 1 => by
    rw [cb_n, pn_, cb_pn x w]
    have e : bs x w = decide (x.toBitVec.toNat / 2 ^ w % 2 = 1) := by
      show x.toBitVec.toNat.testBit w = _
      exact Nat.testBit_eq_decide_div_mod_eq
    by_cases c : x.toBitVec.toNat / 2 ^ w % 2 = 1
    · rw [if_pos (by rw [e]; exact decide_eq_true c), c]
    · rw [if_neg (by rw [e]; exact fun z => c (of_decide_eq_true z))]
      omega
theorem i_127 (x : Int64) (w : Int32) (hw : w.toInt = 127) : (x.toInt32 &&& w).toInt = ((x.toBitVec.toNat % 128 : Nat) : Int) := by
  have e : w = 127 := Int32.toInt_inj.mp (by rw [hw]; rfl)
  subst e
  have t : (x.toInt32 &&& 127).toBitVec.toNat = x.toBitVec.toNat % 128 := by
    rw [Int32.toBitVec_and, BitVec.toNat_and, Int64.toBitVec_toInt32, BitVec.signExtend_eq_setWidth_of_le _ (by decide), BitVec.toNat_setWidth, show (127 : Int32).toBitVec.toNat = 2 ^ 7 - 1 by decide +kernel, Nat.and_two_pow_sub_one_eq_mod]
    omega
  show (x.toInt32 &&& 127).toBitVec.toInt = _
  rw [BitVec.toInt_eq_toNat_of_lt (by rw [t]; omega), t]
section
variable {lv : List (Nat × Value)} {Q : Option Value → MH → Prop} {h0 h : MH} {H : Nat → Nat → Int}
theorem r_lbb0 (M : RX h0 h H) {lx0 : Int64} (e0 : m_lk lv 0 = some (.long lx0)) 
    (g0 : ∀ lv2 : List (Nat × Value), m_lk lv2 0 = some (.long (lx0 - ((lu_sh lx0 (1)) &&& (6148914691236517205)))) → HJ 155 10 lv2 [] h Q)
    : HJ 155 0 lv [] h Q := by
  refine hI_ll (k := 0) rfl e0 rfl ?_ -- 0
  refine hI_ll (k := 0) rfl e0 rfl ?_ -- 1
  refine hM_ic (n := 1) rfl (by decide) rfl (fun x1 q1 => ?_) -- 2
  refine hM_lushr rfl q1 rfl ?_ -- 3
  refine hM_jc (x := 6148914691236517205) rfl rfl rfl ?_ -- 4
  refine hI_land rfl rfl ?_ -- 7
  refine hI_lsub rfl rfl ?_ -- 8
  refine hM_sl (k := 0) rfl (by decide +kernel) rfl (fun lv2 e2_0 u2 => ?_) -- 9
  exact g0 lv2 e2_0
theorem r_lbb1 (M : RX h0 h H) {lx0 : Int64} (e0 : m_lk lv 0 = some (.long lx0)) 
    (g0 : ∀ lv2 : List (Nat × Value), m_lk lv2 0 = some (.long ((lx0 &&& (3689348814741910323)) + ((lu_sh lx0 (2)) &&& (3689348814741910323)))) → HJ 155 24 lv2 [] h Q)
    : HJ 155 10 lv [] h Q := by
  refine hI_ll (k := 0) rfl e0 rfl ?_ -- 10
  refine hM_jc (x := 3689348814741910323) rfl rfl rfl ?_ -- 11
  refine hI_land rfl rfl ?_ -- 14
  refine hI_ll (k := 0) rfl e0 rfl ?_ -- 15
  refine hM_ic (n := 2) rfl (by decide) rfl (fun x1 q1 => ?_) -- 16
  refine hM_lushr rfl q1 rfl ?_ -- 17
  refine hM_jc (x := 3689348814741910323) rfl rfl rfl ?_ -- 18
  refine hI_land rfl rfl ?_ -- 21
  refine hI_ladd rfl rfl ?_ -- 22
  refine hM_sl (k := 0) rfl (by decide +kernel) rfl (fun lv2 e2_0 u2 => ?_) -- 23
  exact g0 lv2 e2_0
theorem r_lbb2 (M : RX h0 h H) {lx0 : Int64} (e0 : m_lk lv 0 = some (.long lx0)) 
    (g0 : ∀ lv2 : List (Nat × Value), m_lk lv2 0 = some (.long ((lx0 + (lu_sh lx0 (4))) &&& (1085102592571150095))) → HJ 155 34 lv2 [] h Q)
    : HJ 155 24 lv [] h Q := by
  refine hI_ll (k := 0) rfl e0 rfl ?_ -- 24
  refine hI_ll (k := 0) rfl e0 rfl ?_ -- 25
  refine hM_ic (n := 4) rfl (by decide) rfl (fun x1 q1 => ?_) -- 26
  refine hM_lushr rfl q1 rfl ?_ -- 27
  refine hI_ladd rfl rfl ?_ -- 28
  refine hM_jc (x := 1085102592571150095) rfl rfl rfl ?_ -- 29
  refine hI_land rfl rfl ?_ -- 32
  refine hM_sl (k := 0) rfl (by decide +kernel) rfl (fun lv2 e2_0 u2 => ?_) -- 33
  exact g0 lv2 e2_0
theorem r_lbb3 (M : RX h0 h H) {lx0 : Int64} (e0 : m_lk lv 0 = some (.long lx0)) 
    (g0 : ∀ lv2 : List (Nat × Value), m_lk lv2 0 = some (.long (lx0 + (lu_sh lx0 (8)))) → HJ 155 41 lv2 [] h Q)
    : HJ 155 34 lv [] h Q := by
  refine hI_ll (k := 0) rfl e0 rfl ?_ -- 34
  refine hI_ll (k := 0) rfl e0 rfl ?_ -- 35
  refine hM_bp (n := 8) rfl (by decide) rfl (fun x1 q1 => ?_) -- 36
  refine hM_lushr rfl q1 rfl ?_ -- 38
  refine hI_ladd rfl rfl ?_ -- 39
  refine hM_sl (k := 0) rfl (by decide +kernel) rfl (fun lv2 e2_0 u2 => ?_) -- 40
  exact g0 lv2 e2_0
theorem r_lbb4 (M : RX h0 h H) {lx0 : Int64} (e0 : m_lk lv 0 = some (.long lx0)) 
    (g0 : ∀ lv2 : List (Nat × Value), m_lk lv2 0 = some (.long (lx0 + (lu_sh lx0 (16)))) → HJ 155 48 lv2 [] h Q)
    : HJ 155 41 lv [] h Q := by
  refine hI_ll (k := 0) rfl e0 rfl ?_ -- 41
  refine hI_ll (k := 0) rfl e0 rfl ?_ -- 42
  refine hM_bp (n := 16) rfl (by decide) rfl (fun x1 q1 => ?_) -- 43
  refine hM_lushr rfl q1 rfl ?_ -- 45
  refine hI_ladd rfl rfl ?_ -- 46
  refine hM_sl (k := 0) rfl (by decide +kernel) rfl (fun lv2 e2_0 u2 => ?_) -- 47
  exact g0 lv2 e2_0
theorem r_lbb5 (M : RX h0 h H) {lx0 : Int64} (e0 : m_lk lv 0 = some (.long lx0)) 
    (g0 : ∀ lv2 : List (Nat × Value), m_lk lv2 0 = some (.long (lx0 + (lu_sh lx0 (32)))) → HJ 155 55 lv2 [] h Q)
    : HJ 155 48 lv [] h Q := by
  refine hI_ll (k := 0) rfl e0 rfl ?_ -- 48
  refine hI_ll (k := 0) rfl e0 rfl ?_ -- 49
  refine hM_bp (n := 32) rfl (by decide) rfl (fun x1 q1 => ?_) -- 50
  refine hM_lushr rfl q1 rfl ?_ -- 52
  refine hI_ladd rfl rfl ?_ -- 53
  refine hM_sl (k := 0) rfl (by decide +kernel) rfl (fun lv2 e2_0 u2 => ?_) -- 54
  exact g0 lv2 e2_0
theorem r_lbb6 (M : RX h0 h H) {lx0 : Int64} (e0 : m_lk lv 0 = some (.long lx0)) 
    (g0 : ∀ x1 : Int32, x1.toInt = (lx0.toInt32).toInt → ∀ x2 : Int32, x2.toInt = 127 → HJ 155 59 lv [.int x2, .int x1] h Q)
    : HJ 155 55 lv [] h Q := by
  refine hI_ll (k := 0) rfl e0 rfl ?_ -- 55
  refine hM_l2i rfl rfl (fun x1 q1 => ?_) -- 56
  refine hM_bp (n := 127) rfl (by decide) rfl (fun x2 q2 => ?_) -- 57
  exact g0 x1 q1 x2 q2
theorem k_lbc {x : Int64} (g : ∀ w : Int32, w.toInt = (cb_n x 64 : Int) → Q (some (.int w)) h) : HJ 155 0 (lv_args 0 [.long x]) [] h Q := by
  have M := RX.start h
  refine r_lbb0 M rfl (fun lv1 e1 => ?_)
  refine r_lbb1 M e1 (fun lv2 e2 => ?_)
  refine r_lbb2 M e2 (fun lv3 e3 => ?_)
  refine r_lbb3 M e3 (fun lv4 e4 => ?_)
  refine r_lbb4 M e4 (fun lv5 e5 => ?_)
  refine r_lbb5 M e5 (fun lv6 e6 => ?_)
  refine r_lbb6 M e6 (fun x1 q1 x2 q2 => ?_)
  refine hI_iand rfl rfl ?_
  refine hI_ri rfl rfl (g _ ?_)
  have ex : x1 = (lb_6 (lb_5 (lb_4 (lb_3 (lb_2 (lb_1 x)))))).toInt32 := Int32.toInt_inj.mp q1
  rw [ex, i_127 _ _ q2, cb_pn]
  have n1 := lb_N1 x
  have n2 := lb_N2 (lb_1 x)
  rw [n1, sb_c (fun t ht => (zb_5 ⟨t, ht⟩).1)] at n2
  have n3 := lb_N3 (lb_2 (lb_1 x)) (f := fun t => pg2 (pg1 t)) (n := x.toBitVec.toNat) (fun t ht => (zb_5 ⟨t, ht⟩).2) n2 (by
    rw [n2]
    exact sb_V (fun t ht => by have : pg2 (pg1 t) / 16 ≤ 4 := (zb_5 ⟨t, ht⟩).2.1; omega) _)
  rw [sb_e (g := fun t => pn_ t 8) (fun t ht => zb_4 ⟨t, ht⟩)] at n3
  obtain ⟨-, ⟨⟨p1, p2⟩, p3⟩, p4⟩ := pn_64 x.toBitVec.toNat
  have n4 : (lb_4 (lb_3 (lb_2 (lb_1 x)))).toBitVec.toNat = sb_ (fun t => pn_ t 8) 8 x.toBitVec.toNat + sb_ (fun t => pn_ t 8) 8 x.toBitVec.toNat / 2 ^ 8 := by
    have e2 : (lu_sh (lb_3 (lb_2 (lb_1 x))) (8)).toBitVec.toNat = (lb_3 (lb_2 (lb_1 x))).toBitVec.toNat / 2 ^ 8 := lu_N _ (by decide +kernel)
    show (lb_3 (lb_2 (lb_1 x)) + lu_sh (lb_3 (lb_2 (lb_1 x))) (8)).toBitVec.toNat = _
    rw [Int64.toBitVec_add, BitVec.toNat_add, e2, n3]
    exact Nat.mod_eq_of_lt (by omega)
  rw [← n4] at p1 p2 p3 p4
  have n5 : (lb_5 (lb_4 (lb_3 (lb_2 (lb_1 x))))).toBitVec.toNat = (lb_4 (lb_3 (lb_2 (lb_1 x)))).toBitVec.toNat + (lb_4 (lb_3 (lb_2 (lb_1 x)))).toBitVec.toNat / 2 ^ 16 := by
    have e2 : (lu_sh (lb_4 (lb_3 (lb_2 (lb_1 x)))) (16)).toBitVec.toNat = (lb_4 (lb_3 (lb_2 (lb_1 x)))).toBitVec.toNat / 2 ^ 16 := lu_N _ (by decide +kernel)
    show (lb_4 (lb_3 (lb_2 (lb_1 x))) + lu_sh (lb_4 (lb_3 (lb_2 (lb_1 x)))) (16)).toBitVec.toNat = _
    rw [Int64.toBitVec_add, BitVec.toNat_add, e2]
    exact Nat.mod_eq_of_lt (by omega)
  rw [← n5] at p1 p2 p3
  have n6 : (lb_6 (lb_5 (lb_4 (lb_3 (lb_2 (lb_1 x)))))).toBitVec.toNat = (lb_5 (lb_4 (lb_3 (lb_2 (lb_1 x))))).toBitVec.toNat + (lb_5 (lb_4 (lb_3 (lb_2 (lb_1 x))))).toBitVec.toNat / 2 ^ 32 := by
    have e2 : (lu_sh (lb_5 (lb_4 (lb_3 (lb_2 (lb_1 x))))) (32)).toBitVec.toNat = (lb_5 (lb_4 (lb_3 (lb_2 (lb_1 x))))).toBitVec.toNat / 2 ^ 32 := lu_N _ (by decide +kernel)
    show (lb_5 (lb_4 (lb_3 (lb_2 (lb_1 x)))) + lu_sh (lb_5 (lb_4 (lb_3 (lb_2 (lb_1 x))))) (32)).toBitVec.toNat = _
    rw [Int64.toBitVec_add, BitVec.toNat_add, e2]
    exact Nat.mod_eq_of_lt (by omega)
  rw [n6, p1]
-- the lowest bit
theorem lo_B {x : Int64} {i : Nat} (hi : i ≤ 40) (b : bs x i = true) (lo : ∀ j, j < i → bs x j = false) : x &&& (-x) = bt (i : Int) := by
  apply bs_ext
  intro w hw
  rw [bs_and, bs_bt hi hw]
  have n : bs (-x) w = (bs x w ^^ decide (w < 64) && decide (∃ j, j < w ∧ bs x j = true)) := by
    show (-x).toBitVec.getLsbD w = _
    rw [Int64.toBitVec_neg, BitVec.getLsbD_neg]
    rfl
  rw [n, decide_eq_true hw, Bool.true_and]
  by_cases c : w = i
  · subst c
    have z : ¬ ∃ j, j < w ∧ bs x j = true := fun ⟨j, h1, h2⟩ => by
      rw [lo j h1] at h2
      cases h2
    rw [decide_eq_false z, b, decide_eq_true rfl]
    rfl
  · rw [decide_eq_false (p := w = i) c]
    by_cases c2 : w < i
    · rw [lo w c2]
      rfl
    · rw [decide_eq_true (⟨i, by omega, b⟩ : ∃ j, j < w ∧ bs x j = true)]
      cases bs x w <;> rfl
theorem zb_8 : ∀ i : Fin 41, cb_n (bt (i.val : Int) - Int64.ofNat (1 : Fin 2).val) 64 = i.val := by decide +kernel
theorem r_fo0_ (M : RX h0 h H) {lx0 : Int64} (e0 : m_lk lv 0 = some (.long lx0)) 
    (g0 : (lg_cmp lx0 (Int64.ofNat (0 : Fin 2).val)).toInt ≠ 0 → HJ 155 0 (lv_args 0 [.long ((lx0 &&& (-lx0)) - (Int64.ofNat (1 : Fin 2).val))]) [] h (fun v h' => HJ 154 19 lv (v.toList ++ []) h' Q))
    (g1 : ∀ x2 : Int32, x2.toInt = (-1) → (lg_cmp lx0 (Int64.ofNat (0 : Fin 2).val)).toInt = 0 → Q (some (.int x2)) h)
    : HJ 154 0 lv [] h Q := by
  refine hI_ll (k := 0) rfl e0 rfl ?_ -- 0
  refine hI_lc (n := 0) rfl rfl ?_ -- 1
  refine hM_lcmp rfl rfl (fun x1 q1 => ?_) -- 2
  refine hM_zne (off := 7) (t := 10) rfl q1 (by decide) rfl (fun c3 => ?_) (fun c3 => ?_) -- 3
  · refine hI_ll (k := 0) rfl e0 rfl ?_ -- 10
    refine hI_ll (k := 0) rfl e0 rfl ?_ -- 11
    refine hI_lneg rfl rfl ?_ -- 12
    refine hI_land rfl rfl ?_ -- 13
    refine hI_lc (n := 1) rfl rfl ?_ -- 14
    refine hI_lsub rfl rfl ?_ -- 15
    refine hM_is0 (as := [.long ((lx0 &&& (-lx0)) - (Int64.ofNat (1 : Fin 2).val))]) (r := []) rfl rfl (by decide +kernel) rfl rfl rfl rfl rfl ?_ -- 16
    exact g0 c3
  · refine hM_ic (n := (-1)) rfl (by decide) rfl (fun x2 q2 => ?_) -- 6
    refine hI_go (pc' := 19) (off := 12) rfl (by decide) ?_ -- 7
    refine hI_ri rfl rfl ?_ -- 19
    exact g1 x2 q2 c3
theorem k_fir {x : Int64} {i : Nat} (hi : i ≤ 40) (b : bs x i = true) (lo : ∀ j, j < i → bs x j = false) (g : ∀ w : Int32, w.toInt = (i : Int) → Q (some (.int w)) h) : HJ 154 0 (lv_args 0 [.long x]) [] h Q := by
  refine r_fo0_ (RX.start h) rfl (fun c => ?_) (fun x2 q2 c => ?_)
  · rw [lo_B hi b lo]
    refine k_lbc (fun w qw => ?_)
    show HJ 154 19 _ [.int w] h Q
    refine hI_ri rfl rfl (g w ?_)
    rw [qw, zb_8 ⟨i, by omega⟩]
  · rw [lg_0.mp c, bs_0] at b
    cases b
theorem k_fi0 {x : Int64} (e : x = Int64.ofNat (0 : Fin 2).val) (g : ∀ w : Int32, w.toInt = -1 → Q (some (.int w)) h) : HJ 154 0 (lv_args 0 [.long x]) [] h Q :=
  r_fo0_ (RX.start h) rfl (fun c => absurd (lg_0.mpr e) c) (fun x2 q2 _ => g x2 q2)
end
-- THE SET BITS, one after the other
theorem og_cb {x : Int64} {a : Nat} : ∀ d, cb_n x a ≤ cb_n x (a + d)
  | 0 => Nat.le_refl _
  | d + 1 => by
    have := og_cb (x := x) (a := a) d
    exact Nat.le_trans this (Nat.le_add_right _ _)
theorem og_cl {x : Int64} {a b : Nat} (h : a ≤ b) : cb_n x a ≤ cb_n x b := by
  have := og_cb (x := x) (a := a) (b - a)
  rw [show a + (b - a) = b by omega] at this
  exact this
theorem og_c1 {x : Int64} {v : Nat} (b : bs x v = true) : cb_n x (v + 1) = cb_n x v + 1 := by
  rw [cb_n, if_pos b]
theorem og_c0 {x : Int64} {v : Nat} (b : bs x v ≠ true) : cb_n x (v + 1) = cb_n x v := by
  rw [cb_n, if_neg b, Nat.add_zero]
def nb_ (x : Int64) (i : Nat) : Nat → Nat
  | 0 => 0
  | n + 1 => if bs x n = true ∧ cb_n x n = i then n else nb_ x i n
theorem nb_at {x : Int64} {v : Nat} (b : bs x v = true) : ∀ n, v < n → nb_ x (cb_n x v) n = v
  | 0, h => absurd h (Nat.not_lt_zero v)
  | n + 1, h => by
    by_cases e : v = n
    · subst e
      rw [nb_, if_pos ⟨b, rfl⟩]
    · rw [nb_, if_neg (fun z => ?_)]
      · exact nb_at b n (by omega)
      · have k := og_cl (x := x) (a := v + 1) (b := n) (by omega)
        rw [og_c1 b] at k
        omega
theorem nb_ex {x : Int64} {i : Nat} : ∀ n, i < cb_n x n → ∃ v, v < n ∧ bs x v = true ∧ cb_n x v = i
  | 0, h => absurd h (Nat.not_lt_zero i)
  | n + 1, h => by
    by_cases b : bs x n = true
    · rw [og_c1 b] at h
      by_cases e : i = cb_n x n
      · exact ⟨n, by omega, b, e.symm⟩
      · obtain ⟨v, v1, v2⟩ := nb_ex (x := x) (i := i) n (by omega)
        exact ⟨v, by omega, v2⟩
    · rw [og_c0 b] at h
      obtain ⟨v, v1, v2⟩ := nb_ex (x := x) (i := i) n h
      exact ⟨v, by omega, v2⟩
theorem nb_sp {x : Int64} {i n : Nat} (h : i < cb_n x n) (n64 : n ≤ 64) : nb_ x i 64 < n ∧ bs x (nb_ x i 64) = true ∧ cb_n x (nb_ x i 64) = i := by
  obtain ⟨v, v1, v2, v3⟩ := nb_ex n h
  have e := nb_at v2 64 (by omega)
  rw [v3] at e
  rw [e]
  exact ⟨v1, v2, v3⟩
theorem nb_lt {x : Int64} {i j n : Nat} (hi : i < cb_n x n) (hj : j < cb_n x n) (n64 : n ≤ 64) : nb_ x i 64 < nb_ x j 64 ↔ i < j := by
  obtain ⟨-, a2, a3⟩ := nb_sp hi n64
  obtain ⟨-, b2, b3⟩ := nb_sp hj n64
  constructor
  · intro c
    have k := og_cl (x := x) (a := nb_ x i 64 + 1) (b := nb_ x j 64) (by omega)
    rw [og_c1 a2, a3, b3] at k
    omega
  · intro c
    by_cases d : nb_ x i 64 < nb_ x j 64
    · exact d
    · have k := og_cl (x := x) (a := nb_ x j 64) (b := nb_ x i 64) (by omega)
      rw [a3, b3] at k
      omega
theorem am_cb {x : Int64} {n : Nat} (a : am_t x n) : ∀ d, n + d ≤ 64 → cb_n x (n + d) = cb_n x n
  | 0, _ => rfl
  | d + 1, h => by
    have k := am_cb a d (by omega)
    show cb_n x (n + d + 1) = _
    rw [og_c0 (by rw [a (n + d) (by omega) (by omega)]; decide), k]
theorem am_64 {x : Int64} {n : Nat} (a : am_t x n) (h : n ≤ 41) : cb_n x 64 = cb_n x n := by
  have k := am_cb a (64 - n) (by omega)
  rw [show n + (64 - n) = 64 by omega] at k
  exact k
theorem bs_m1 : ∀ w : Fin 64, bs (-1) w.val = true := by decide +kernel
theorem bs_xm {x : Int64} {v : Nat} (hv : v < 64) : bs (x ^^^ (-1)) v = !bs x v := by
  have e := bs_m1 ⟨v, hv⟩
  have q : bs (x ^^^ (-1)) v = (bs x v ^^ bs (-1) v) := by
    show (x ^^^ (-1)).toBitVec.getLsbD v = _
    rw [Int64.toBitVec_xor, BitVec.getLsbD_xor]
    rfl
  rw [q, e]
  cases bs x v <;> rfl
-- INTS as numbers
theorem iN_o {x : Int32} {a : Nat} (q : x.toInt = (a : Int)) : x.toBitVec.toNat = a := by
  have := i_nat (x := x) (by omega)
  omega
theorem iN_b {x : BitVec 32} {a : Nat} (h : x.toNat = a) (l : a < 2 ^ 30) : x.toInt = (a : Int) := by
  have l2 : a < 1073741824 := l
  rw [BitVec.toInt_eq_toNat_of_lt (by omega), h]
theorem iN_xor {x y : Int32} {a b : Nat} (qa : x.toInt = (a : Int)) (qb : y.toInt = (b : Int)) (la : a < 2 ^ 30) (lb : b < 2 ^ 30) : (x ^^^ y).toInt = ((a ^^^ b : Nat) : Int) := by
  have l := Nat.xor_lt_two_pow la lb
  refine iN_b (x := (x ^^^ y).toBitVec) ?_ l
  rw [Int32.toBitVec_xor, BitVec.toNat_xor, iN_o qa, iN_o qb]
theorem iN_or {x y : Int32} {a b : Nat} (qa : x.toInt = (a : Int)) (qb : y.toInt = (b : Int)) (la : a < 2 ^ 30) (lb : b < 2 ^ 30) : (x ||| y).toInt = ((a ||| b : Nat) : Int) := by
  have l := Nat.or_lt_two_pow la lb
  refine iN_b (x := (x ||| y).toBitVec) ?_ l
  rw [Int32.toBitVec_or, BitVec.toNat_or, iN_o qa, iN_o qb]
theorem iN_1 {x : Int32} {a : Nat} (qa : x.toInt = (a : Int)) {y : Int32} (q1 : y.toInt = 1) : (x &&& y).toInt = ((a % 2 : Nat) : Int) := by
  have e1 : y.toBitVec.toNat = 1 := iN_o (a := 1) q1
  refine iN_b (x := (x &&& y).toBitVec) ?_ (by have : a % 2 < 2 := Nat.mod_lt _ (by decide); omega)
  rw [Int32.toBitVec_and, BitVec.toNat_and, iN_o qa, e1, Nat.and_one_is_mod]
theorem iN_31 : ∀ k : Fin 32, ((Int32.ofInt (k.val : Int)).toUInt32 &&& Int32.toUInt32 31).toNat % 32 = k.val := by decide +kernel
theorem iN_us {x y : Int32} {a k : Nat} (qa : x.toInt = (a : Int)) (la : a < 2 ^ 30) (qk : y.toInt = (k : Int)) (k31 : k < 32) : ((x.toUInt32 >>> (y.toUInt32 &&& Int32.toUInt32 31)).toInt32).toInt = ((a / 2 ^ k : Nat) : Int) := by
  have ey : y = Int32.ofInt (k : Int) := by rw [← qk, Int32.ofInt_toInt]
  have e : (x.toUInt32 >>> (y.toUInt32 &&& Int32.toUInt32 31)).toNat = a / 2 ^ k := by
    rw [UInt32.toNat_shiftRight, ey, iN_31 ⟨k, k31⟩, Nat.shiftRight_eq_div_pow]
    show x.toBitVec.toNat / 2 ^ k = _
    rw [iN_o qa]
  have l : a / 2 ^ k ≤ a := Nat.div_le_self _ _
  exact iN_b (x := ((x.toUInt32 >>> (y.toUInt32 &&& Int32.toUInt32 31)).toInt32).toBitVec) e (by omega)
theorem zs_12 : ∀ i : Fin 12, ((1 : Int32) <<< (Int32.ofInt (i.val : Int) &&& 31)).toInt = ((2 ^ i.val : Nat) : Int) := by decide +kernel
theorem zs_0 : ∀ i : Fin 12, ((0 : Int32) <<< (Int32.ofInt (i.val : Int) &&& 31)).toInt = 0 := by decide +kernel
theorem p12_ : ∀ i : Fin 13, (2 : Int) ^ i.val = ((2 ^ i.val : Nat) : Int) ∧ 2 ^ i.val ≤ 4096 := by decide
theorem p12 {i : Nat} (h : i ≤ 12) : (2 : Int) ^ i = ((2 ^ i : Nat) : Int) ∧ 2 ^ i ≤ 4096 := p12_ ⟨i, by omega⟩
section
variable {i pc pc' : Nat} {lv : List (Nat × Value)} {st : List Value} {h : MH} {Q : Option Value → MH → Prop}
theorem hM_usN {x y : Int32} {a k : Nat} (c : m_at i pc = some (.iushr, 1)) (qa : x.toInt = (a : Int)) (la : a < 2 ^ 30) (qk : y.toInt = (k : Int)) (k31 : k < 32) (hp : pc + 1 = pc') (g : ∀ w : Int32, w.toInt = ((a / 2 ^ k : Nat) : Int) → HJ i pc' lv (.int w :: st) h Q) : HJ i pc lv (.int y :: .int x :: st) h Q := by
  subst hp
  exact HJ.ex c (Or.inl rfl) rfl (g _ (iN_us qa la qk k31))
theorem hM_an1 {x y : Int32} {a : Nat} (c : m_at i pc = some (.iand, 1)) (qa : x.toInt = (a : Int)) (q1 : y.toInt = 1) (hp : pc + 1 = pc') (g : ∀ w : Int32, w.toInt = ((a % 2 : Nat) : Int) → HJ i pc' lv (.int w :: st) h Q) : HJ i pc lv (.int y :: .int x :: st) h Q := hI_iand c hp (g _ (iN_1 qa q1))
end
theorem tb_dg {a k : Nat} : Nat.testBit a k = true ↔ a / 2 ^ k % 2 = 1 := by
  rw [Nat.testBit_eq_decide_div_mod_eq, decide_eq_true_iff]
theorem xb_t {b i t : Nat} : Nat.testBit (b ^^^ 2 ^ i) t = (Nat.testBit b t ^^ decide (i = t)) := by
  rw [Nat.testBit_xor, Nat.testBit_two_pow]
theorem xb_lt {b i m : Nat} (hb : b < 2 ^ m) (hi : i < m) : b ^^^ 2 ^ i < 2 ^ m := Nat.xor_lt_two_pow hb (Nat.pow_lt_pow_right (by decide) hi)
theorem xb_less {b i : Nat} (h : Nat.testBit b i = true) : b ^^^ 2 ^ i < b := by
  have e : b ^^^ 2 ^ i = (b ^^^ 2 ^ i) &&& b := by
    apply Nat.eq_of_testBit_eq
    intro t
    rw [Nat.testBit_and, xb_t]
    by_cases c : i = t
    · subst c
      rw [h, decide_eq_true rfl]
      rfl
    · rw [decide_eq_false c]
      cases Nat.testBit b t <;> rfl
  have l : (b ^^^ 2 ^ i) &&& b ≤ b := Nat.and_le_right
  have n : b ^^^ 2 ^ i ≠ b := fun z => by
    have q : Nat.testBit (b ^^^ 2 ^ i) i = Nat.testBit b i := by rw [z]
    rw [xb_t, h, decide_eq_true rfl] at q
    cases q
  omega
-- the packed code of some holders: bit i where the i-th of the chosen holds
def pz_ (x y : Int64) : Nat → Nat
  | 0 => 0
  | i + 1 => if bs y (nb_ x i 64) = true then 2 ^ i + pz_ x y i else pz_ x y i
theorem pz_lt {x y : Int64} : ∀ i, pz_ x y i < 2 ^ i
  | 0 => by
    show 0 < 1
    decide
  | i + 1 => by
    have := pz_lt (x := x) (y := y) i
    rw [pz_, Nat.pow_succ]
    split <;> omega
theorem pz_t {x y : Int64} : ∀ i t, t < i → Nat.testBit (pz_ x y i) t = bs y (nb_ x t 64)
  | 0, t, h => absurd h (Nat.not_lt_zero t)
  | i + 1, t, h => by
    have l := pz_lt (x := x) (y := y) i
    rw [pz_]
    by_cases e : t = i
    · subst e
      have z := Nat.testBit_lt_two_pow l
      by_cases b : bs y (nb_ x t 64) = true
      · rw [if_pos b, Nat.testBit_two_pow_add_eq, z, b]
        rfl
      · rw [if_neg b, z]
        cases q : bs y (nb_ x t 64) with
        | false => rfl
        | true => exact absurd q b
    · have k := pz_t (x := x) (y := y) i t (by omega)
      by_cases b : bs y (nb_ x i 64) = true
      · rw [if_pos b, Nat.testBit_two_pow_add_gt (by omega), k]
      · rw [if_neg b, k]
-- the set of a code
def un_ (x : Int64) (b : Nat) : Nat → Int64
  | 0 => Int64.ofNat (0 : Fin 2).val
  | i + 1 => if Nat.testBit b i = true then un_ x b i ||| bt ((nb_ x i 64 : Nat) : Int) else un_ x b i
theorem un_B {x : Int64} {b w : Nat} (hw : w < 64) : ∀ i, (∀ t, t < i → nb_ x t 64 ≤ 40) → (bs (un_ x b i) w = true ↔ ∃ t, t < i ∧ Nat.testBit b t = true ∧ w = nb_ x t 64)
  | 0, _ => by
    show bs (Int64.ofNat (0 : Fin 2).val) w = true ↔ _
    rw [bs_0]
    constructor
    · intro h
      cases h
    · rintro ⟨t, h, -⟩
      exact absurd h (Nat.not_lt_zero t)
  | i + 1, hn => by
    have ih := un_B (x := x) (b := b) hw i (fun t ht => hn t (by omega))
    rw [un_]
    by_cases c : Nat.testBit b i = true
    · rw [if_pos c, bs_or, Bool.or_eq_true, ih, bs_bt (hn i (by omega)) hw, decide_eq_true_iff]
      constructor
      · rintro (⟨t, t1, t2⟩ | e)
        · exact ⟨t, by omega, t2⟩
        · exact ⟨i, by omega, c, e⟩
      · rintro ⟨t, t1, t2, t3⟩
        by_cases e : t = i
        · subst e
          exact Or.inr t3
        · exact Or.inl ⟨t, by omega, t2, t3⟩
    · rw [if_neg c, ih]
      constructor
      · rintro ⟨t, t1, t2⟩
        exact ⟨t, by omega, t2⟩
      · rintro ⟨t, t1, t2, t3⟩
        by_cases e : t = i
        · subst e
          exact absurd t2 c
        · exact ⟨t, by omega, t2, t3⟩
-- what is chosen
def cho (x : Int64) (m : Nat) : Prop := m = cb_n x 64 ∧ am_t x 41
theorem cho_n {x : Int64} {m : Nat} (C : cho x m) {t : Nat} (ht : t < m) : nb_ x t 64 ≤ 40 ∧ bs x (nb_ x t 64) = true := by
  have e := am_64 C.2 (Nat.le_refl 41)
  have hh := nb_sp (x := x) (i := t) (n := 41) (by rw [← e, ← C.1]; exact ht) (by decide)
  exact ⟨by omega, hh.2.1⟩
theorem cho_w {x : Int64} {m w : Nat} (C : cho x m) (hw : w < 64) (b : bs x w = true) : ∃ t, t < m ∧ nb_ x t 64 = w := by
  have k := nb_at b 64 hw
  have l := og_cl (x := x) (a := w + 1) (b := 64) (by omega)
  rw [og_c1 b, ← C.1] at l
  exact ⟨cb_n x w, by omega, k⟩
theorem R_any {x y : Int64} {m : Nat} (C : cho x m) : ch_any x y = true ↔ pz_ x y m ≠ 0 := by
  rw [ch_anyT]
  constructor
  · intro h z
    refine h (bs_ext (fun w hw => ?_))
    rw [bs_0, bs_and]
    cases b : bs x w with
    | false => cases bs y w <;> rfl
    | true =>
      obtain ⟨t, t1, t2⟩ := cho_w C hw b
      have k := pz_t (x := x) (y := y) m t t1
      rw [z, Nat.zero_testBit, t2] at k
      rw [← k]
      rfl
  · intro h z
    apply h
    apply Nat.eq_of_testBit_eq
    intro t
    rw [Nat.zero_testBit]
    by_cases l : t < m
    · rw [pz_t m t l]
      obtain ⟨n1, n2⟩ := cho_n C l
      have q : bs (y &&& x) (nb_ x t 64) = bs (Int64.ofNat (0 : Fin 2).val) (nb_ x t 64) := by rw [z]
      rw [bs_and, bs_0, n2, Bool.and_true] at q
      exact q
    · exact Nat.testBit_lt_two_pow (Nat.lt_of_lt_of_le (pz_lt m) (Nat.pow_le_pow_right (by decide) (by omega)))
theorem R_meet {x y : Int64} {m b : Nat} (C : cho x m) : y &&& un_ x b m = Int64.ofNat (0 : Fin 2).val ↔ ∀ t, t < m → Nat.testBit (pz_ x y m) t = true → Nat.testBit b t = false := by
  have nb : ∀ t, t < m → nb_ x t 64 ≤ 40 := fun t ht => (cho_n C ht).1
  constructor
  · intro z t ht p
    rw [pz_t m t ht] at p
    have n1 := nb t ht
    cases c : Nat.testBit b t with
    | false => rfl
    | true =>
      have q : bs (y &&& un_ x b m) (nb_ x t 64) = bs (Int64.ofNat (0 : Fin 2).val) (nb_ x t 64) := by rw [z]
      rw [bs_and, bs_0, p, (un_B (by omega) m nb).mpr ⟨t, ht, c, rfl⟩] at q
      cases q
  · intro h
    refine bs_ext (fun w hw => ?_)
    rw [bs_0, bs_and]
    cases q : bs (un_ x b m) w with
    | false => cases bs y w <;> rfl
    | true =>
      obtain ⟨t, t1, t2, t3⟩ := (un_B hw m nb).mp q
      cases p : bs y w with
      | false => rfl
      | true =>
        have k := pz_t (x := x) (y := y) m t t1
        rw [← t3, p] at k
        rw [h t t1 k] at t2
        cases t2
theorem R_in {x y : Int64} {m b : Nat} (C : cho x m) (i : y &&& (x ^^^ (-1)) = Int64.ofNat (0 : Fin 2).val) : y &&& (un_ x b m ^^^ (-1)) = Int64.ofNat (0 : Fin 2).val ↔ ∀ t, t < m → Nat.testBit (pz_ x y m) t = true → Nat.testBit b t = true := by
  have nb : ∀ t, t < m → nb_ x t 64 ≤ 40 := fun t ht => (cho_n C ht).1
  have yx : ∀ w, w < 64 → bs y w = true → bs x w = true := fun w hw p => by
    have q : bs (y &&& (x ^^^ (-1))) w = bs (Int64.ofNat (0 : Fin 2).val) w := by rw [i]
    rw [bs_and, bs_0, p, bs_xm hw] at q
    cases c : bs x w with
    | true => rfl
    | false =>
      rw [c] at q
      cases q
  constructor
  · intro z t ht p
    rw [pz_t m t ht] at p
    have n1 := nb t ht
    have q : bs (y &&& (un_ x b m ^^^ (-1))) (nb_ x t 64) = bs (Int64.ofNat (0 : Fin 2).val) (nb_ x t 64) := by rw [z]
    rw [bs_and, bs_0, p, bs_xm (by omega)] at q
    cases c : bs (un_ x b m) (nb_ x t 64) with
    | false =>
      rw [c] at q
      cases q
    | true =>
      obtain ⟨u, u1, u2, u3⟩ := (un_B (by omega) m nb).mp c
      obtain ⟨-, -, k1⟩ := nb_sp (x := x) (i := t) (n := 64) (by rw [← C.1]; exact ht) (Nat.le_refl _)
      obtain ⟨-, -, k2⟩ := nb_sp (x := x) (i := u) (n := 64) (by rw [← C.1]; exact u1) (Nat.le_refl _)
      rw [u3, k2] at k1
      rw [← k1]
      exact u2
  · intro h
    refine bs_ext (fun w hw => ?_)
    rw [bs_0, bs_and, bs_xm hw]
    cases p : bs y w with
    | false => rfl
    | true =>
      obtain ⟨t, t1, t2⟩ := cho_w C hw (yx w hw p)
      have k := pz_t (x := x) (y := y) m t t1
      rw [t2, p] at k
      rw [(un_B hw m nb).mpr ⟨t, t1, h t t1 k, t2.symm⟩]
      rfl
-- sums below, one bit after the other
def rl_ (i m p b : Nat) : Bool := decide (∀ t, t < m → if t < i then (Nat.testBit p t = true → Nat.testBit b t = true) else Nat.testBit p t = Nat.testBit b t)
theorem rl_T {i m p b : Nat} : rl_ i m p b = true ↔ ∀ t, t < m → if t < i then (Nat.testBit p t = true → Nat.testBit b t = true) else Nat.testBit p t = Nat.testBit b t := decide_eq_true_iff
theorem rl_0 {m p b : Nat} (hp : p < 2 ^ m) (hb : b < 2 ^ m) : rl_ 0 m p b = decide (p = b) := by
  apply Bool.eq_iff_iff.mpr
  rw [rl_T, decide_eq_true_iff]
  constructor
  · intro h
    apply Nat.eq_of_testBit_eq
    intro t
    by_cases l : t < m
    · have k := h t l
      rw [if_neg (Nat.not_lt_zero t)] at k
      exact k
    · have q : 2 ^ m ≤ 2 ^ t := Nat.pow_le_pow_right (by decide) (by omega)
      rw [Nat.testBit_lt_two_pow (by omega), Nat.testBit_lt_two_pow (by omega)]
  · intro e t _
    rw [e, if_neg (Nat.not_lt_zero t)]
theorem rl_m {m p b : Nat} : rl_ m m p b = true ↔ ∀ t, t < m → Nat.testBit p t = true → Nat.testBit b t = true := by
  rw [rl_T]
  constructor
  · intro h t ht
    have k := h t ht
    rw [if_pos ht] at k
    exact k
  · intro h t ht
    rw [if_pos ht]
    exact h t ht
theorem rl_F {i m p b : Nat} (hi : i < m) (h : Nat.testBit b i = false) : rl_ (i + 1) m p b = rl_ i m p b := by
  apply Bool.eq_iff_iff.mpr
  rw [rl_T, rl_T]
  constructor
  · intro k t ht
    have q := k t ht
    by_cases e : t = i
    · subst e
      rw [if_pos (by omega)] at q
      rw [if_neg (by omega), h]
      cases c : Nat.testBit p t with
      | false => rfl
      | true =>
        rw [h] at q
        exact absurd (q c) (by decide)
    · by_cases l : t < i
      · rw [if_pos (by omega)] at q
        rw [if_pos l]
        exact q
      · rw [if_neg (by omega)] at q
        rw [if_neg l]
        exact q
  · intro k t ht
    have q := k t ht
    by_cases e : t = i
    · subst e
      rw [if_neg (by omega)] at q
      rw [if_pos (by omega), q]
      exact id
    · by_cases l : t < i
      · rw [if_pos l] at q
        rw [if_pos (by omega)]
        exact q
      · rw [if_neg l] at q
        rw [if_neg (by omega)]
        exact q
theorem rl_S {i m p b : Nat} (hi : i < m) (h : Nat.testBit b i = true) : (if rl_ (i + 1) m p b = true then 1 else 0) = (if rl_ i m p b = true then 1 else 0) + (if rl_ i m p (b ^^^ 2 ^ i) = true then 1 else 0) := by
  have bi : Nat.testBit (b ^^^ 2 ^ i) i = false := by
    rw [xb_t, h, decide_eq_true rfl]
    rfl
  have bo : ∀ t, t ≠ i → Nat.testBit (b ^^^ 2 ^ i) t = Nat.testBit b t := fun t ht => by
    rw [xb_t, decide_eq_false (fun e => ht e.symm)]
    cases Nat.testBit b t <;> rfl
  cases c : Nat.testBit p i with
  | true =>
    have n : ¬ rl_ i m p (b ^^^ 2 ^ i) = true := fun z => by
      have q := rl_T.mp z i hi
      rw [if_neg (by omega), c, bi] at q
      cases q
    have e : rl_ (i + 1) m p b = true ↔ rl_ i m p b = true := by
      rw [rl_T, rl_T]
      constructor
      · intro k t ht
        have q := k t ht
        by_cases e : t = i
        · subst e
          rw [if_neg (by omega), c, h]
        · by_cases l : t < i
          · rw [if_pos (by omega)] at q
            rw [if_pos l]
            exact q
          · rw [if_neg (by omega)] at q
            rw [if_neg l]
            exact q
      · intro k t ht
        have q := k t ht
        by_cases e : t = i
        · subst e
          rw [if_pos (by omega)]
          exact fun _ => h
        · by_cases l : t < i
          · rw [if_pos l] at q
            rw [if_pos (by omega)]
            exact q
          · rw [if_neg l] at q
            rw [if_neg (by omega)]
            exact q
    rw [if_neg n]
    by_cases d : rl_ i m p b = true
    · rw [if_pos d, if_pos (e.mpr d)]
    · rw [if_neg d, if_neg (fun z => d (e.mp z))]
  | false =>
    have n : ¬ rl_ i m p b = true := fun z => by
      have q := rl_T.mp z i hi
      rw [if_neg (by omega), c, h] at q
      cases q
    have e : rl_ (i + 1) m p b = true ↔ rl_ i m p (b ^^^ 2 ^ i) = true := by
      rw [rl_T, rl_T]
      constructor
      · intro k t ht
        have q := k t ht
        by_cases e : t = i
        · subst e
          rw [if_neg (by omega), c, bi]
        · rw [bo t e]
          by_cases l : t < i
          · rw [if_pos (by omega)] at q
            rw [if_pos l]
            exact q
          · rw [if_neg (by omega)] at q
            rw [if_neg l]
            exact q
      · intro k t ht
        have q := k t ht
        by_cases e : t = i
        · subst e
          rw [if_pos (by omega), c]
          intro z
          cases z
        · rw [bo t e] at q
          by_cases l : t < i
          · rw [if_pos l] at q
            rw [if_pos (by omega)]
            exact q
          · rw [if_neg l] at q
            rw [if_neg (by omega)]
            exact q
    rw [if_neg n]
    by_cases d : rl_ i m p (b ^^^ 2 ^ i) = true
    · rw [if_pos d, if_pos (e.mpr d)]
    · rw [if_neg d, if_neg (fun z => d (e.mp z))]
def tn_ (C : Int64 → Bool) (x : Int64) (m : Nat) (L : Nat → Int64) (n i b : Nat) : Nat := ch_n (fun y => C y && rl_ i m (pz_ x y m) b) L n
theorem tn_F {C : Int64 → Bool} {x : Int64} {m i b : Nat} {L : Nat → Int64} (hi : i < m) (h : Nat.testBit b i = false) (n : Nat) : tn_ C x m L n (i + 1) b = tn_ C x m L n i b := ch_C (fun j _ => by rw [rl_F hi h])
theorem tn_S {C : Int64 → Bool} {x : Int64} {m i b : Nat} {L : Nat → Int64} (hi : i < m) (h : Nat.testBit b i = true) : ∀ n, tn_ C x m L n (i + 1) b = tn_ C x m L n i b + tn_ C x m L n i (b ^^^ 2 ^ i)
  | 0 => rfl
  | n + 1 => by
    have ih := tn_S (C := C) (x := x) (L := L) hi h n
    unfold tn_ at ih ⊢
    rw [ch_n, ch_n, ch_n, ih]
    have s := rl_S (p := pz_ x (L n) m) hi h
    cases C (L n) with
    | false =>
      simp only [Bool.false_and]
      rfl
    | true =>
      simp only [Bool.true_and]
      omega
theorem tn_0 {C : Int64 → Bool} {x : Int64} {m b : Nat} {L : Nat → Int64} (hb : b < 2 ^ m) (n : Nat) : tn_ C x m L n 0 b = ch_n (fun y => C y && decide (pz_ x y m = b)) L n := ch_C (fun j _ => by rw [rl_0 (pz_lt m) hb])
theorem tn_L {C : Int64 → Bool} {x : Int64} {m i b : Nat} {L : Nat → Int64} (n : Nat) : tn_ C x m L n i b ≤ n := ch_L n
-- THE CLASS: choose
section
variable {lv : List (Nat × Value)} {Q : Option Value → MH → Prop} {h0 h : MH} {H : Nat → Nat → Int}
theorem k_hoR {nd i : Nat} {xi : Int32} (M : RX h0 h H) (ok : nl_ok h0 nd) (en : H nd 5 = z_i h0 nd 5) (q : xi.toInt = (i : Int)) (hi : (i : Int) < H nd 5) (g : Q (some (.long (ho_L h0 nd i))) h) : HJ 99 0 (lv_args 0 [.ref nd, .int xi]) [] h Q := by
  obtain ⟨⟨kn, -⟩, -, ⟨kl, -⟩, -, ⟨-, ml⟩, -⟩ := ok
  refine hI_il (k := 1) rfl rfl rfl ?_
  refine hM_zlt (off := 20) (t := 21) rfl q (by decide) rfl (fun c => absurd c (by omega)) (fun _ => ?_)
  refine hI_il (k := 1) rfl rfl rfl ?_
  refine hI_al (k := 0) rfl rfl rfl ?_
  refine hR_gi (c := 2) (k := 5) M kn rfl rfl rfl rfl (fun x5 q5 => ?_)
  refine hM_cge (off := 12) (t := 21) rfl q q5 (by decide) rfl (fun c => absurd c (by omega)) (fun _ => ?_)
  refine hI_al (k := 0) rfl rfl rfl ?_
  refine hR_gr (c := 2) (k := 1) M kn rfl rfl rfl rfl ?_
  refine hI_il (k := 1) rfl rfl rfl ?_
  refine hI_la rfl (by rw [M.2.1]; exact kl) (by omega) (by rw [M.2.1]; omega) rfl ?_
  refine hI_go (pc' := 22) (off := 4) rfl (by decide) ?_
  have e : h_l h (h_r h0 nd 1) xi.toInt.toNat = ho_L h0 nd i := by
    rw [M.2.2.1.2, q, Int.toNat_natCast]
    rfl
  rw [e]
  exact hI_rl rfl rfl g
theorem r_cj0 {sh : Nat} (M : RX h0 h H) (e0 : m_lk lv 0 = some (.ref sh)) {lx1 : Int64} (e1 : m_lk lv 1 = some (.long lx1))  (hk0 : (h_k h0 sh).1 = 6)
    (g0 : ∀ h2 : MH, ∀ H2 : Nat → Nat → Int, H2 = m_u H sh (m_u (H sh) 3 (0)) → ∀ x3 : Int32, x3.toInt = 0 → ∀ lv4 : List (Nat × Value), RX h0 h2 H2 → m_lk lv4 0 = some (.ref sh) → m_lk lv4 1 = some (.long lx1) → m_lk lv4 3 = some (.int x3) → HJ 158 7 lv4 [] h2 Q)
    : HJ 158 0 lv [] h Q := by
  refine hI_al (k := 0) rfl e0 rfl ?_ -- 0
  refine hM_ic (n := 0) rfl (by decide) rfl (fun x1 q1 => ?_) -- 1
  refine hR_pi (c := 5) (k := 3) M hk0 rfl rfl ⟨by decide, by decide +kernel, rfl⟩ q1 rfl (fun h2 H2 f2 M2 => ?_) -- 2
  refine hM_ic (n := 0) rfl (by decide) rfl (fun x3 q3 => ?_) -- 5
  refine hM_si (k := 3) rfl (by decide +kernel) rfl (fun lv4 e4_3 u4 => ?_) -- 6
  have e4_0 := u4 0 _ (by decide) (Or.inl rfl) e0
  have e4_1 := u4 1 _ (by decide) (Or.inr (by decide)) e1
  exact g0 h2 H2 f2 x3 q3 lv4 M2 e4_0 e4_1 e4_3
theorem r_cj7 {sh : Nat} {v : Int} (M : RX h0 h H) (e0 : m_lk lv 0 = some (.ref sh)) {lx1 : Int64} (e1 : m_lk lv 1 = some (.long lx1)) {lx3 : Int32} (e3 : m_lk lv 3 = some (.int lx3)) (lq3 : lx3.toInt = v)  (hk0 : (h_k h0 sh).1 = 6)
    (g0 : v ≥ 41 → HJ 158 59 lv [] h Q)
    (g1 : v < 41 → H sh 3 ≥ 12 → HJ 158 59 lv [] h Q)
    (g2 : v < 41 → H sh 3 < 12 → HJ 52 0 (lv_args 0 [.int lx3]) [] h (fun v h' => HJ 158 27 lv (v.toList ++ [.long lx1]) h' Q))
    : HJ 158 7 lv [] h Q := by
  refine hI_il (k := 3) rfl e3 rfl ?_ -- 7
  refine hM_bp (n := 41) rfl (by decide) rfl (fun x1 q1 => ?_) -- 8
  refine hM_cge (off := 49) (t := 59) rfl lq3 q1 (by decide) rfl (fun c10 => ?_) (fun c10 => ?_) -- 10
  · exact g0 c10
  · refine hI_al (k := 0) rfl e0 rfl ?_ -- 13
    refine hR_gi (c := 5) (k := 3) M hk0 rfl rfl rfl rfl (fun x2 q2 => ?_) -- 14
    have gb2 : -2147483648 ≤ H sh 3 ∧ H sh 3 ≤ 2147483647 := by rw [← q2]; exact g_iT _
    refine hM_bp (n := 12) rfl (by decide) rfl (fun x3 q3 => ?_) -- 17
    refine hM_cge (off := 40) (t := 59) rfl q2 q3 (by decide) rfl (fun c19 => ?_) (fun c19 => ?_) -- 19
    · exact g1 c10 c19
    · refine hI_ll (k := 1) rfl e1 rfl ?_ -- 22
      refine hI_il (k := 3) rfl e3 rfl ?_ -- 23
      refine hM_is0 (as := [.int lx3]) (r := [.long lx1]) rfl rfl (by decide +kernel) rfl rfl rfl rfl rfl ?_ -- 24
      exact g2 c10 c19
theorem r_cj27 {sh : Nat} {v : Int} (M : RX h0 h H) (e0 : m_lk lv 0 = some (.ref sh)) {lx1 : Int64} (e1 : m_lk lv 1 = some (.long lx1)) {lx3 : Int32} (e3 : m_lk lv 3 = some (.int lx3)) (lq3 : lx3.toInt = v) {sx0 : Int64} {sx1 : Int64} (k0 : 0 ≤ H sh 3) (k1 : H sh 3 ≤ 11) (ne0 : AN (h_r h0 sh 1) (sh)) (hk0 : (h_k h0 sh).1 = 6) (ha0 : (h_k h0 (h_r h0 sh 1)).1 = 20) (hl0 : 12 ≤ ((h_k h0 (h_r h0 sh 1)).2 : Int)) (hs0 : 16 ≤ h_r h0 sh 1)
    (g0 : (lg_cmp (sx0 &&& sx1) (Int64.ofNat (0 : Fin 2).val)).toInt = 0 → HJ 158 53 lv [] h Q)
    (g1 : ∀ h3 : MH, ∀ H3 : Nat → Nat → Int, H3 = m_u H (h_r h0 sh 1) (m_u (H (h_r h0 sh 1)) (H sh 3).toNat (v)) → ∀ h7 : MH, ∀ H7 : Nat → Nat → Int, H7 = m_u H3 sh (m_u (H3 sh) 3 ((H sh 3) + 1)) → RX h0 h7 H7 → (lg_cmp (sx0 &&& sx1) (Int64.ofNat (0 : Fin 2).val)).toInt ≠ 0 → HJ 158 53 lv [] h7 Q)
    : HJ 158 27 lv [.long sx1, .long sx0] h Q := by
  refine hI_land rfl rfl ?_ -- 27
  refine hI_lc (n := 0) rfl rfl ?_ -- 28
  refine hM_lcmp rfl rfl (fun x1 q1 => ?_) -- 29
  refine hM_zeq (off := 23) (t := 53) rfl q1 (by decide) rfl (fun c30 => ?_) (fun c30 => ?_) -- 30
  · exact g0 c30
  · refine hI_al (k := 0) rfl e0 rfl ?_ -- 33
    refine hR_gr (c := 5) (k := 1) M hk0 rfl rfl rfl rfl ?_ -- 34
    refine hI_al (k := 0) rfl e0 rfl ?_ -- 37
    refine hR_gi (c := 5) (k := 3) M hk0 rfl rfl rfl rfl (fun x2 q2 => ?_) -- 38
    have gb2 : -2147483648 ≤ H sh 3 ∧ H sh 3 ≤ 2147483647 := by rw [← q2]; exact g_iT _
    refine hI_il (k := 3) rfl e3 rfl ?_ -- 41
    refine hR_is M hs0 ha0 q2 lq3 (by omega) (by omega) rfl rfl (fun h3 H3 f3 M3 => ?_) -- 42
    refine hI_al (k := 0) rfl e0 rfl ?_ -- 43
    refine hI_dup rfl rfl rfl ?_ -- 44
    refine hR_gi (c := 5) (k := 3) M3 hk0 rfl rfl rfl rfl (fun x4 q4 => ?_) -- 45
    rw [show H3 sh 3 = H sh 3 by rw [f3, m_uN _ _ _ _ (Ne.symm ne0)]] at q4
    have gb4 : -2147483648 ≤ H sh 3 ∧ H sh 3 ≤ 2147483647 := by rw [← q4]; exact g_iT _
    refine hM_ic (n := 1) rfl (by decide) rfl (fun x5 q5 => ?_) -- 48
    refine hM_add rfl q4 q5 (by omega) (by omega) rfl (fun x6 q6 => ?_) -- 49
    refine hR_pi (c := 5) (k := 3) M3 hk0 rfl rfl ⟨by decide, by decide +kernel, rfl⟩ q6 rfl (fun h7 H7 f7 M7 => ?_) -- 50
    exact g1 h3 H3 f3 h7 H7 f7 M7 c30
theorem r_cj53 {sh : Nat} {v : Int} (M : RX h0 h H) (e0 : m_lk lv 0 = some (.ref sh)) {lx1 : Int64} (e1 : m_lk lv 1 = some (.long lx1)) {lx3 : Int32} (e3 : m_lk lv 3 = some (.int lx3)) (lq3 : lx3.toInt = v) (v0 : 0 ≤ v) (v1 : v ≤ 40)
    (g0 : ∀ x1 : Int32, x1.toInt = v + 1 → ∀ lv1 : List (Nat × Value), m_lk lv1 0 = some (.ref sh) → m_lk lv1 1 = some (.long lx1) → m_lk lv1 3 = some (.int x1) → HJ 158 7 lv1 [] h Q)
    : HJ 158 53 lv [] h Q := by
  refine hM_inc (k := 3) (z := 1) rfl e3 lq3 (by decide) (by omega) (by omega) (by decide +kernel) rfl (fun lv1 x1 q1 e1_3 u1 => ?_) -- 53
  have e1_0 := u1 0 _ (by decide) (Or.inl rfl) e0
  have e1_1 := u1 1 _ (by decide) (Or.inr (by decide)) e1
  refine hI_go (pc' := 7) (off := (-49)) rfl (by decide) ?_ -- 56
  exact g0 x1 q1 lv1 e1_0 e1_1 e1_3
theorem r_cj59 {sh : Nat} (M : RX h0 h H) (e0 : m_lk lv 0 = some (.ref sh)) (k0 : 0 ≤ H sh 3) (k1 : H sh 3 ≤ 12) (hk0 : (h_k h0 sh).1 = 6) (hz0 : 20 ≤ (h_k h0 (h_r h0 sh 0)).1 ∧ (h_k h0 (h_r h0 sh 0)).1 < 34) (hb0 : (h_k h0 (h_r h0 sh 0)).2 < 2147483648)
    (g0 : ((h_k h0 (h_r h0 sh 0)).2 : Int) ≥ (2 : Int) ^ (H sh 3).toNat → HJ 158 85 lv [] h Q)
    (g1 : ((h_k h0 (h_r h0 sh 0)).2 : Int) < (2 : Int) ^ (H sh 3).toNat → HJ 158 73 lv [] h Q)
    : HJ 158 59 lv [] h Q := by
  refine hI_al (k := 0) rfl e0 rfl ?_ -- 59
  refine hR_gr (c := 5) (k := 0) M hk0 rfl rfl rfl rfl ?_ -- 60
  refine hR_al M hz0 hb0 rfl rfl (fun x1 q1 => ?_) -- 63
  refine hM_ic (n := 1) rfl (by decide) rfl (fun x2 q2 => ?_) -- 64
  refine hI_al (k := 0) rfl e0 rfl ?_ -- 65
  refine hR_gi (c := 5) (k := 3) M hk0 rfl rfl rfl rfl (fun x3 q3 => ?_) -- 66
  have gb3 : -2147483648 ≤ H sh 3 ∧ H sh 3 ≤ 2147483647 := by rw [← q3]; exact g_iT _
  refine hM_shl rfl q2 q3 (by omega) (by omega) rfl (fun x4 q4 => ?_) -- 69
  refine hM_cge (off := 15) (t := 85) rfl q1 q4 (by decide) rfl (fun c70 => ?_) (fun c70 => ?_) -- 70
  · exact g0 c70
  · exact g1 c70
theorem r_cj73 {sh : Nat} (M : RX h0 h H) (e0 : m_lk lv 0 = some (.ref sh)) (k0 : 0 ≤ H sh 3) (k1 : H sh 3 ≤ 12) (hk0 : (h_k h0 sh).1 = 6)
    (g0 : ∀ x3 : Int32, x3.toInt = (2 : Int) ^ (H sh 3).toNat → HJ 158 80 lv [.int x3, .ref sh] h Q)
    : HJ 158 73 lv [] h Q := by
  refine hI_al (k := 0) rfl e0 rfl ?_ -- 73
  refine hM_ic (n := 1) rfl (by decide) rfl (fun x1 q1 => ?_) -- 74
  refine hI_al (k := 0) rfl e0 rfl ?_ -- 75
  refine hR_gi (c := 5) (k := 3) M hk0 rfl rfl rfl rfl (fun x2 q2 => ?_) -- 76
  have gb2 : -2147483648 ≤ H sh 3 ∧ H sh 3 ≤ 2147483647 := by rw [← q2]; exact g_iT _
  refine hM_shl rfl q1 q2 (by omega) (by omega) rfl (fun x3 q3 => ?_) -- 79
  exact g0 x3 q3
theorem r_cj85 {sh : Nat} (M : RX h0 h H) (e0 : m_lk lv 0 = some (.ref sh))  (hk0 : (h_k h0 sh).1 = 6)
    (g0 : ∀ x1 : Int32, x1.toInt = 0 → HJ 48 0 (lv_args 0 [.ref (h_r h0 sh 0), .int x1]) [] h (fun v h' => HJ 158 93 lv (v.toList ++ []) h' Q))
    : HJ 158 85 lv [] h Q := by
  refine hI_al (k := 0) rfl e0 rfl ?_ -- 85
  refine hR_gr (c := 5) (k := 0) M hk0 rfl rfl rfl rfl ?_ -- 86
  refine hM_ic (n := 0) rfl (by decide) rfl (fun x1 q1 => ?_) -- 89
  refine hM_is0 (as := [.ref (h_r h0 sh 0), .int x1]) (r := []) rfl rfl (by decide +kernel) rfl rfl rfl rfl rfl ?_ -- 90
  exact g0 x1 q1
theorem r_cj93 {sh : Nat} (M : RX h0 h H)  
    (g0 : Q none h)
    : HJ 158 93 lv [] h Q := by
  refine hI_rv rfl rfl ?_
  exact g0 
theorem r_pq0 {sh : Nat} (M : RX h0 h H) (e0 : m_lk lv 0 = some (.ref sh)) {lx1 : Int64} (e1 : m_lk lv 1 = some (.long lx1)) 
    (g0 : ∀ x1 : Int32, x1.toInt = 0 → ∀ x3 : Int32, x3.toInt = 0 → ∀ lv4 : List (Nat × Value), m_lk lv4 0 = some (.ref sh) → m_lk lv4 1 = some (.long lx1) → m_lk lv4 3 = some (.int x1) → m_lk lv4 4 = some (.int x3) → HJ 159 5 lv4 [] h Q)
    : HJ 159 0 lv [] h Q := by
  refine hM_ic (n := 0) rfl (by decide) rfl (fun x1 q1 => ?_) -- 0
  refine hM_si (k := 3) rfl (by decide +kernel) rfl (fun lv2 e2_3 u2 => ?_) -- 1
  have e2_0 := u2 0 _ (by decide) (Or.inl rfl) e0
  have e2_1 := u2 1 _ (by decide) (Or.inr (by decide)) e1
  refine hM_ic (n := 0) rfl (by decide) rfl (fun x3 q3 => ?_) -- 2
  refine hM_si2 (k := 4) rfl (by decide +kernel) rfl (fun lv4 e4_4 u4 => ?_) -- 3
  have e4_0 := u4 0 _ (by decide) (Or.inl rfl) e2_0
  have e4_1 := u4 1 _ (by decide) (Or.inr (by decide)) e2_1
  have e4_3 := u4 3 _ (by decide) (Or.inl rfl) e2_3
  exact g0 x1 q1 x3 q3 lv4 e4_0 e4_1 e4_3 e4_4
theorem r_pq5 {sh : Nat} {b i : Int} (M : RX h0 h H) (e0 : m_lk lv 0 = some (.ref sh)) {lx1 : Int64} (e1 : m_lk lv 1 = some (.long lx1)) {lx3 : Int32} (e3 : m_lk lv 3 = some (.int lx3)) (lq3 : lx3.toInt = b) {lx4 : Int32} (e4 : m_lk lv 4 = some (.int lx4)) (lq4 : lx4.toInt = i) (i0 : 0 ≤ i) (k0 : 0 ≤ H sh 3) (k1 : H sh 3 ≤ 12) (hk0 : (h_k h0 sh).1 = 6) (ha0 : (h_k h0 (h_r h0 sh 1)).1 = 20) (hl0 : 12 ≤ ((h_k h0 (h_r h0 sh 1)).2 : Int))
    (g0 : i ≥ H sh 3 → Q (some (.int lx3)) h)
    (g1 : ∀ x3 : Int32, x3.toInt = (((lu_sh lx1 (H (h_r h0 sh 1) (i).toNat)) &&& (Int64.ofNat (1 : Fin 2).val)).toInt32).toInt → ∀ x4 : Int32, x4.toInt = (x3 <<< (lx4 &&& 31)).toInt → ∀ x5 : Int32, x5.toInt = (lx3 ||| x4).toInt → ∀ x7 : Int32, x7.toInt = i + 1 → ∀ lv7 : List (Nat × Value), m_lk lv7 0 = some (.ref sh) → m_lk lv7 1 = some (.long lx1) → m_lk lv7 3 = some (.int x5) → m_lk lv7 4 = some (.int x7) → i < H sh 3 → HJ 159 5 lv7 [] h Q)
    : HJ 159 5 lv [] h Q := by
  refine hI_il2 (k := 4) rfl e4 rfl ?_ -- 5
  refine hI_al (k := 0) rfl e0 rfl ?_ -- 7
  refine hR_gi (c := 5) (k := 3) M hk0 rfl rfl rfl rfl (fun x1 q1 => ?_) -- 8
  have gb1 : -2147483648 ≤ H sh 3 ∧ H sh 3 ≤ 2147483647 := by rw [← q1]; exact g_iT _
  refine hM_cge (off := 27) (t := 38) rfl lq4 q1 (by decide) rfl (fun c11 => ?_) (fun c11 => ?_) -- 11
  · refine hI_il (k := 3) rfl e3 rfl ?_ -- 38
    refine hI_ri rfl rfl ?_ -- 39
    exact g0 c11
  · refine hI_il (k := 3) rfl e3 rfl ?_ -- 14
    refine hI_ll (k := 1) rfl e1 rfl ?_ -- 15
    refine hI_al (k := 0) rfl e0 rfl ?_ -- 16
    refine hR_gr (c := 5) (k := 1) M hk0 rfl rfl rfl rfl ?_ -- 17
    refine hI_il2 (k := 4) rfl e4 rfl ?_ -- 20
    refine hR_ia M ha0 lq4 (by omega) (by omega) rfl rfl (fun x2 q2 => ?_) -- 22
    have gb2 : -2147483648 ≤ H (h_r h0 sh 1) (i).toNat ∧ H (h_r h0 sh 1) (i).toNat ≤ 2147483647 := by rw [← q2]; exact g_iT _
    refine hM_lushr rfl q2 rfl ?_ -- 23
    refine hI_lc (n := 1) rfl rfl ?_ -- 24
    refine hI_land rfl rfl ?_ -- 25
    refine hM_l2i rfl rfl (fun x3 q3 => ?_) -- 26
    refine hI_il2 (k := 4) rfl e4 rfl ?_ -- 27
    refine hM_ishlx rfl rfl (fun x4 q4 => ?_) -- 29
    refine hM_iorx rfl rfl (fun x5 q5 => ?_) -- 30
    refine hM_si (k := 3) rfl (by decide +kernel) rfl (fun lv6 e6_3 u6 => ?_) -- 31
    have e6_0 := u6 0 _ (by decide) (Or.inl rfl) e0
    have e6_1 := u6 1 _ (by decide) (Or.inr (by decide)) e1
    have e6_4 := u6 4 _ (by decide) (Or.inl rfl) e4
    refine hM_inc (k := 4) (z := 1) rfl e6_4 lq4 (by decide) (by omega) (by omega) (by decide +kernel) rfl (fun lv7 x7 q7 e7_4 u7 => ?_) -- 32
    have e7_0 := u7 0 _ (by decide) (Or.inl rfl) e6_0
    have e7_1 := u7 1 _ (by decide) (Or.inr (by decide)) e6_1
    have e7_3 := u7 3 _ (by decide) (Or.inl rfl) e6_3
    refine hI_go (pc' := 5) (off := (-30)) rfl (by decide) ?_ -- 35
    exact g1 x3 q3 x4 q4 x5 q5 x7 q7 lv7 e7_0 e7_1 e7_3 e7_4 c11
theorem r_sm0 {sh : Nat} (M : RX h0 h H) (e0 : m_lk lv 0 = some (.ref sh)) 
    (g0 : ∀ x1 : Int32, x1.toInt = 0 → ∀ lv2 : List (Nat × Value), m_lk lv2 0 = some (.ref sh) → m_lk lv2 1 = some (.int x1) → HJ 160 2 lv2 [] h Q)
    : HJ 160 0 lv [] h Q := by
  refine hM_ic (n := 0) rfl (by decide) rfl (fun x1 q1 => ?_) -- 0
  refine hM_si (k := 1) rfl (by decide +kernel) rfl (fun lv2 e2_1 u2 => ?_) -- 1
  have e2_0 := u2 0 _ (by decide) (Or.inl rfl) e0
  exact g0 x1 q1 lv2 e2_0 e2_1
theorem r_sm2 {sh : Nat} {i : Int} (M : RX h0 h H) (e0 : m_lk lv 0 = some (.ref sh)) {lx1 : Int32} (e1 : m_lk lv 1 = some (.int lx1)) (lq1 : lx1.toInt = i)  (hk0 : (h_k h0 sh).1 = 6)
    (g0 : i ≥ H sh 3 → Q none h)
    (g1 : ∀ x2 : Int32, x2.toInt = 0 → ∀ lv3 : List (Nat × Value), m_lk lv3 0 = some (.ref sh) → m_lk lv3 1 = some (.int lx1) → m_lk lv3 2 = some (.int x2) → i < H sh 3 → HJ 160 12 lv3 [] h Q)
    : HJ 160 2 lv [] h Q := by
  refine hI_il (k := 1) rfl e1 rfl ?_ -- 2
  refine hI_al (k := 0) rfl e0 rfl ?_ -- 3
  refine hR_gi (c := 5) (k := 3) M hk0 rfl rfl rfl rfl (fun x1 q1 => ?_) -- 4
  have gb1 : -2147483648 ≤ H sh 3 ∧ H sh 3 ≤ 2147483647 := by rw [← q1]; exact g_iT _
  refine hM_cge (off := 54) (t := 61) rfl lq1 q1 (by decide) rfl (fun c7 => ?_) (fun c7 => ?_) -- 7
  · refine hI_rv rfl rfl ?_
    exact g0 c7
  · refine hM_ic (n := 0) rfl (by decide) rfl (fun x2 q2 => ?_) -- 10
    refine hM_si (k := 2) rfl (by decide +kernel) rfl (fun lv3 e3_2 u3 => ?_) -- 11
    have e3_0 := u3 0 _ (by decide) (Or.inl rfl) e0
    have e3_1 := u3 1 _ (by decide) (Or.inl rfl) e1
    exact g1 x2 q2 lv3 e3_0 e3_1 e3_2 c7
theorem r_sm12 {sh : Nat} {i j : Int} (M : RX h0 h H) (e0 : m_lk lv 0 = some (.ref sh)) {lx1 : Int32} (e1 : m_lk lv 1 = some (.int lx1)) (lq1 : lx1.toInt = i) {lx2 : Int32} (e2 : m_lk lv 2 = some (.int lx2)) (lq2 : lx2.toInt = j) (k0 : 0 ≤ H sh 3) (k1 : H sh 3 ≤ 12) (hk0 : (h_k h0 sh).1 = 6)
    (g0 : j ≥ (2 : Int) ^ (H sh 3).toNat → HJ 160 55 lv [] h Q)
    (g1 : j < (2 : Int) ^ (H sh 3).toNat → HJ 160 22 lv [] h Q)
    : HJ 160 12 lv [] h Q := by
  refine hI_il (k := 2) rfl e2 rfl ?_ -- 12
  refine hM_ic (n := 1) rfl (by decide) rfl (fun x1 q1 => ?_) -- 13
  refine hI_al (k := 0) rfl e0 rfl ?_ -- 14
  refine hR_gi (c := 5) (k := 3) M hk0 rfl rfl rfl rfl (fun x2 q2 => ?_) -- 15
  have gb2 : -2147483648 ≤ H sh 3 ∧ H sh 3 ≤ 2147483647 := by rw [← q2]; exact g_iT _
  refine hM_shl rfl q1 q2 (by omega) (by omega) rfl (fun x3 q3 => ?_) -- 18
  refine hM_cge (off := 36) (t := 55) rfl lq2 q3 (by decide) rfl (fun c19 => ?_) (fun c19 => ?_) -- 19
  · exact g0 c19
  · exact g1 c19
theorem r_sm30 {sh : Nat} {i j T : Int} (M : RX h0 h H) (e0 : m_lk lv 0 = some (.ref sh)) {lx1 : Int32} (e1 : m_lk lv 1 = some (.int lx1)) (lq1 : lx1.toInt = i) {lx2 : Int32} (e2 : m_lk lv 2 = some (.int lx2)) (lq2 : lx2.toInt = j) (i0 : 0 ≤ i) (i1 : i ≤ 11) (j0 : 0 ≤ j) (j1 : j < T) (hk0 : (h_k h0 sh).1 = 6) (ha0 : (h_k h0 (h_r h0 sh 0)).1 = 20) (hl0 : T ≤ ((h_k h0 (h_r h0 sh 0)).2 : Int))
    (g0 : ∀ x1 : Int32, x1.toInt = H (h_r h0 sh 0) (j).toNat → ∀ x3 : Int32, x3.toInt = (2 : Int) ^ (i).toNat → ∀ x4 : Int32, x4.toInt = (lx2 ^^^ x3).toInt → HJ 160 46 lv [.int x4, .ref (h_r h0 sh 0), .int x1, .int lx2, .ref (h_r h0 sh 0)] h Q)
    : HJ 160 30 lv [] h Q := by
  refine hI_al (k := 0) rfl e0 rfl ?_ -- 30
  refine hR_gr (c := 5) (k := 0) M hk0 rfl rfl rfl rfl ?_ -- 31
  refine hI_il (k := 2) rfl e2 rfl ?_ -- 34
  refine hI_dup2 rfl rfl rfl rfl ?_ -- 35
  refine hR_ia M ha0 lq2 (by omega) (by omega) rfl rfl (fun x1 q1 => ?_) -- 36
  have gb1 : -2147483648 ≤ H (h_r h0 sh 0) (j).toNat ∧ H (h_r h0 sh 0) (j).toNat ≤ 2147483647 := by rw [← q1]; exact g_iT _
  refine hI_al (k := 0) rfl e0 rfl ?_ -- 37
  refine hR_gr (c := 5) (k := 0) M hk0 rfl rfl rfl rfl ?_ -- 38
  refine hI_il (k := 2) rfl e2 rfl ?_ -- 41
  refine hM_ic (n := 1) rfl (by decide) rfl (fun x2 q2 => ?_) -- 42
  refine hI_il (k := 1) rfl e1 rfl ?_ -- 43
  refine hM_shl rfl q2 lq1 (by omega) (by omega) rfl (fun x3 q3 => ?_) -- 44
  refine hM_ixorx rfl rfl (fun x4 q4 => ?_) -- 45
  exact g0 x1 q1 x3 q3 x4 q4
theorem r_sm46 {sh : Nat} {i j t q T : Int} (M : RX h0 h H) (e0 : m_lk lv 0 = some (.ref sh)) {lx1 : Int32} (e1 : m_lk lv 1 = some (.int lx1)) (lq1 : lx1.toInt = i) {lx2 : Int32} (e2 : m_lk lv 2 = some (.int lx2)) (lq2 : lx2.toInt = j) {sx1 : Int32} (sq1 : sx1.toInt = j) {sx2 : Int32} (sq2 : sx2.toInt = t) {sx4 : Int32} (sq4 : sx4.toInt = q) (j0 : 0 ≤ j) (j1 : j < T) (q0 : 0 ≤ q) (q1 : q < T) (t0 : 0 ≤ t) (t1 : t ≤ 1000000) (u0 : 0 ≤ H (h_r h0 sh 0) q.toNat) (u1 : H (h_r h0 sh 0) q.toNat ≤ 1000000) (ha0 : (h_k h0 (h_r h0 sh 0)).1 = 20) (hl0 : T ≤ ((h_k h0 (h_r h0 sh 0)).2 : Int)) (hs0 : 16 ≤ h_r h0 sh 0)
    (g0 : ∀ h3 : MH, ∀ H3 : Nat → Nat → Int, H3 = m_u H (h_r h0 sh 0) (m_u (H (h_r h0 sh 0)) (j).toNat (t + (H (h_r h0 sh 0) (q).toNat))) → RX h0 h3 H3 → HJ 160 49 lv [] h3 Q)
    : HJ 160 46 lv [.int sx4, .ref (h_r h0 sh 0), .int sx2, .int sx1, .ref (h_r h0 sh 0)] h Q := by
  refine hR_ia M ha0 sq4 (by omega) (by omega) rfl rfl (fun x1 q1 => ?_) -- 46
  have gb1 : -2147483648 ≤ H (h_r h0 sh 0) (q).toNat ∧ H (h_r h0 sh 0) (q).toNat ≤ 2147483647 := by rw [← q1]; exact g_iT _
  refine hM_add rfl sq2 q1 (by omega) (by omega) rfl (fun x2 q2 => ?_) -- 47
  refine hR_is M hs0 ha0 sq1 q2 (by omega) (by omega) rfl rfl (fun h3 H3 f3 M3 => ?_) -- 48
  exact g0 h3 H3 f3 M3
theorem r_sm49 {sh : Nat} {i j : Int} (M : RX h0 h H) (e0 : m_lk lv 0 = some (.ref sh)) {lx1 : Int32} (e1 : m_lk lv 1 = some (.int lx1)) (lq1 : lx1.toInt = i) {lx2 : Int32} (e2 : m_lk lv 2 = some (.int lx2)) (lq2 : lx2.toInt = j) (j0 : 0 ≤ j) (j1 : j ≤ 4096)
    (g0 : ∀ x1 : Int32, x1.toInt = j + 1 → ∀ lv1 : List (Nat × Value), m_lk lv1 0 = some (.ref sh) → m_lk lv1 1 = some (.int lx1) → m_lk lv1 2 = some (.int x1) → HJ 160 12 lv1 [] h Q)
    : HJ 160 49 lv [] h Q := by
  refine hM_inc (k := 2) (z := 1) rfl e2 lq2 (by decide) (by omega) (by omega) (by decide +kernel) rfl (fun lv1 x1 q1 e1_2 u1 => ?_) -- 49
  have e1_0 := u1 0 _ (by decide) (Or.inl rfl) e0
  have e1_1 := u1 1 _ (by decide) (Or.inl rfl) e1
  refine hI_go (pc' := 12) (off := (-40)) rfl (by decide) ?_ -- 52
  exact g0 x1 q1 lv1 e1_0 e1_1 e1_2
theorem r_sm55 {sh : Nat} {i : Int} (M : RX h0 h H) (e0 : m_lk lv 0 = some (.ref sh)) {lx1 : Int32} (e1 : m_lk lv 1 = some (.int lx1)) (lq1 : lx1.toInt = i) (i0 : 0 ≤ i) (i1 : i ≤ 12)
    (g0 : ∀ x1 : Int32, x1.toInt = i + 1 → ∀ lv1 : List (Nat × Value), m_lk lv1 0 = some (.ref sh) → m_lk lv1 1 = some (.int x1) → HJ 160 2 lv1 [] h Q)
    : HJ 160 55 lv [] h Q := by
  refine hM_inc (k := 1) (z := 1) rfl e1 lq1 (by decide) (by omega) (by omega) (by decide +kernel) rfl (fun lv1 x1 q1 e1_1 u1 => ?_) -- 55
  have e1_0 := u1 0 _ (by decide) (Or.inl rfl) e0
  refine hI_go (pc' := 2) (off := (-56)) rfl (by decide) ?_ -- 58
  exact g0 x1 q1 lv1 e1_0 e1_1
theorem r_uq0 {sh : Nat} {b : Int} (M : RX h0 h H) (e0 : m_lk lv 0 = some (.ref sh)) {lx1 : Int32} (e1 : m_lk lv 1 = some (.int lx1)) (lq1 : lx1.toInt = b) 
    (g0 : ∀ x2 : Int32, x2.toInt = 0 → ∀ lv3 : List (Nat × Value), m_lk lv3 0 = some (.ref sh) → m_lk lv3 1 = some (.int lx1) → m_lk lv3 2 = some (.long (Int64.ofNat (0 : Fin 2).val)) → m_lk lv3 4 = some (.int x2) → HJ 161 5 lv3 [] h Q)
    : HJ 161 0 lv [] h Q := by
  refine hI_lc (n := 0) rfl rfl ?_ -- 0
  refine hM_sl (k := 2) rfl (by decide +kernel) rfl (fun lv1 e1_2 u1 => ?_) -- 1
  have e1_0 := u1 0 _ (by decide) (by decide) (Or.inl rfl) e0
  have e1_1 := u1 1 _ (by decide) (by decide) (Or.inl rfl) e1
  refine hM_ic (n := 0) rfl (by decide) rfl (fun x2 q2 => ?_) -- 2
  refine hM_si2 (k := 4) rfl (by decide +kernel) rfl (fun lv3 e3_4 u3 => ?_) -- 3
  have e3_0 := u3 0 _ (by decide) (Or.inl rfl) e1_0
  have e3_1 := u3 1 _ (by decide) (Or.inl rfl) e1_1
  have e3_2 := u3 2 _ (by decide) (Or.inr (by decide)) e1_2
  exact g0 x2 q2 lv3 e3_0 e3_1 e3_2 e3_4
theorem r_uq5 {sh : Nat} {b i : Int} (M : RX h0 h H) (e0 : m_lk lv 0 = some (.ref sh)) {lx1 : Int32} (e1 : m_lk lv 1 = some (.int lx1)) (lq1 : lx1.toInt = b) {lx2 : Int64} (e2 : m_lk lv 2 = some (.long lx2)) {lx4 : Int32} (e4 : m_lk lv 4 = some (.int lx4)) (lq4 : lx4.toInt = i)  (hk0 : (h_k h0 sh).1 = 6)
    (g0 : i ≥ H sh 3 → Q (some (.long lx2)) h)
    (g1 : i < H sh 3 → HJ 161 14 lv [] h Q)
    : HJ 161 5 lv [] h Q := by
  refine hI_il2 (k := 4) rfl e4 rfl ?_ -- 5
  refine hI_al (k := 0) rfl e0 rfl ?_ -- 7
  refine hR_gi (c := 5) (k := 3) M hk0 rfl rfl rfl rfl (fun x1 q1 => ?_) -- 8
  have gb1 : -2147483648 ≤ H sh 3 ∧ H sh 3 ≤ 2147483647 := by rw [← q1]; exact g_iT _
  refine hM_cge (off := 31) (t := 42) rfl lq4 q1 (by decide) rfl (fun c11 => ?_) (fun c11 => ?_) -- 11
  · refine hI_ll (k := 2) rfl e2 rfl ?_ -- 42
    refine hI_rl rfl rfl ?_
    exact g0 c11
  · exact g1 c11
theorem r_uq23 {sh : Nat} {b i : Int} (M : RX h0 h H) (e0 : m_lk lv 0 = some (.ref sh)) {lx1 : Int32} (e1 : m_lk lv 1 = some (.int lx1)) (lq1 : lx1.toInt = b) {lx2 : Int64} (e2 : m_lk lv 2 = some (.long lx2)) {lx4 : Int32} (e4 : m_lk lv 4 = some (.int lx4)) (lq4 : lx4.toInt = i) (i0 : 0 ≤ i) (i1 : i ≤ 11) (hk0 : (h_k h0 sh).1 = 6) (ha0 : (h_k h0 (h_r h0 sh 1)).1 = 20) (hl0 : 12 ≤ ((h_k h0 (h_r h0 sh 1)).2 : Int))
    (g0 : ∀ x1 : Int32, x1.toInt = H (h_r h0 sh 1) (i).toNat → HJ 52 0 (lv_args 0 [.int x1]) [] h (fun v h' => HJ 161 34 lv (v.toList ++ [.long lx2]) h' Q))
    : HJ 161 23 lv [] h Q := by
  refine hI_ll (k := 2) rfl e2 rfl ?_ -- 23
  refine hI_al (k := 0) rfl e0 rfl ?_ -- 24
  refine hR_gr (c := 5) (k := 1) M hk0 rfl rfl rfl rfl ?_ -- 25
  refine hI_il2 (k := 4) rfl e4 rfl ?_ -- 28
  refine hR_ia M ha0 lq4 (by omega) (by omega) rfl rfl (fun x1 q1 => ?_) -- 30
  have gb1 : -2147483648 ≤ H (h_r h0 sh 1) (i).toNat ∧ H (h_r h0 sh 1) (i).toNat ≤ 2147483647 := by rw [← q1]; exact g_iT _
  refine hM_is0 (as := [.int x1]) (r := [.long lx2]) rfl rfl (by decide +kernel) rfl rfl rfl rfl rfl ?_ -- 31
  exact g0 x1 q1
theorem r_uq34 {sh : Nat} {b i : Int} (M : RX h0 h H) (e0 : m_lk lv 0 = some (.ref sh)) {lx1 : Int32} (e1 : m_lk lv 1 = some (.int lx1)) (lq1 : lx1.toInt = b) {lx4 : Int32} (e4 : m_lk lv 4 = some (.int lx4)) (lq4 : lx4.toInt = i) {sx0 : Int64} {sx1 : Int64} 
    (g0 : ∀ lv1 : List (Nat × Value), m_lk lv1 0 = some (.ref sh) → m_lk lv1 1 = some (.int lx1) → m_lk lv1 2 = some (.long (sx0 ||| sx1)) → m_lk lv1 4 = some (.int lx4) → HJ 161 36 lv1 [] h Q)
    : HJ 161 34 lv [.long sx1, .long sx0] h Q := by
  refine hI_lor rfl rfl ?_ -- 34
  refine hM_sl (k := 2) rfl (by decide +kernel) rfl (fun lv1 e1_2 u1 => ?_) -- 35
  have e1_0 := u1 0 _ (by decide) (by decide) (Or.inl rfl) e0
  have e1_1 := u1 1 _ (by decide) (by decide) (Or.inl rfl) e1
  have e1_4 := u1 4 _ (by decide) (by decide) (Or.inl rfl) e4
  exact g0 lv1 e1_0 e1_1 e1_2 e1_4
theorem r_uq36 {sh : Nat} {b i : Int} (M : RX h0 h H) (e0 : m_lk lv 0 = some (.ref sh)) {lx1 : Int32} (e1 : m_lk lv 1 = some (.int lx1)) (lq1 : lx1.toInt = b) {lx2 : Int64} (e2 : m_lk lv 2 = some (.long lx2)) {lx4 : Int32} (e4 : m_lk lv 4 = some (.int lx4)) (lq4 : lx4.toInt = i) (i0 : 0 ≤ i) (i1 : i ≤ 11)
    (g0 : ∀ x1 : Int32, x1.toInt = i + 1 → ∀ lv1 : List (Nat × Value), m_lk lv1 0 = some (.ref sh) → m_lk lv1 1 = some (.int lx1) → m_lk lv1 2 = some (.long lx2) → m_lk lv1 4 = some (.int x1) → HJ 161 5 lv1 [] h Q)
    : HJ 161 36 lv [] h Q := by
  refine hM_inc (k := 4) (z := 1) rfl e4 lq4 (by decide) (by omega) (by omega) (by decide +kernel) rfl (fun lv1 x1 q1 e1_4 u1 => ?_) -- 36
  have e1_0 := u1 0 _ (by decide) (Or.inl rfl) e0
  have e1_1 := u1 1 _ (by decide) (Or.inl rfl) e1
  have e1_2 := u1 2 _ (by decide) (Or.inr (by decide)) e2
  refine hI_go (pc' := 5) (off := (-34)) rfl (by decide) ?_ -- 39
  exact g0 x1 q1 lv1 e1_0 e1_1 e1_2 e1_4
def tt_O (h : MH) (sh nd : Nat) : Prop := ((h_k h sh).1 = 6 ∧ 16 ≤ sh ∧ sh < 16 + h_n h) ∧ ((h_k h (h_r h sh 0)).1 = 20 ∧ 16 ≤ h_r h sh 0 ∧ h_r h sh 0 < 16 + h_n h ∧ (h_k h (h_r h sh 0)).2 ≤ 1000000) ∧ ((h_k h (h_r h sh 1)).1 = 20 ∧ 16 ≤ h_r h sh 1 ∧ h_r h sh 1 < 16 + h_n h ∧ (12 : Int) ≤ ((h_k h (h_r h sh 1)).2 : Int)) ∧ nl_ok h nd ∧ h_r h sh 0 ≠ h_r h sh 1 ∧ sh ≠ nd
theorem tt_ne {h : MH} {sh nd : Nat} (O : tt_O h sh nd) : (h_r h sh 0 ≠ sh ∧ h_r h sh 1 ≠ sh) ∧ h_r h sh 0 ≠ nd ∧ h_r h sh 1 ≠ nd := by
  obtain ⟨⟨a, -⟩, ⟨b, -⟩, ⟨c, -⟩, ⟨⟨d, -⟩, -⟩, -⟩ := O
  refine ⟨⟨fun z => ?_, fun z => ?_⟩, fun z => ?_, fun z => ?_⟩
  · rw [z, a] at b
    omega
  · rw [z, a] at c
    omega
  · rw [z, d] at b
    omega
  · rw [z, d] at c
    omega
-- what stands behind choose
def tt_C (h : MH) (sh nd m n : Nat) (x : Int64) (L : Nat → Int64) (H : Nat → Nat → Int) : Prop := H sh 3 = (m : Int) ∧ (∀ t, t < m → H (h_r h sh 1) t = ((nb_ x t 64 : Nat) : Int)) ∧ H nd 5 = (n : Int) ∧ ((2 ^ m : Nat) : Int) ≤ ((h_k h (h_r h sh 0)).2 : Int) ∧ ∀ j, ho_L h nd j = L j
theorem tt_nlR {h0 h : MH} {H : Nat → Nat → Int} {nd : Nat} (M : RX h0 h H) (ok : nl_ok h0 nd) (e : H nd 5 = z_i h0 nd 5) : nl_ok h nd := by
  obtain ⟨M1, M2, ⟨M3, M4⟩, M5⟩ := M
  have n : h_n h = h_n h0 := congrArg Prod.fst M1
  have z : z_i h nd 5 = z_i h0 nd 5 := by
    show (h_i h nd 5).toInt = _
    rw [M5, e]
  unfold nl_ok
  rw [M2, M3, n, z]
  exact ok
theorem tt_OR {h0 h : MH} {H : Nat → Nat → Int} {sh nd : Nat} (M : RX h0 h H) (O : tt_O h0 sh nd) (e : H nd 5 = z_i h0 nd 5) : tt_O h sh nd := by
  obtain ⟨a, b, c, d, f⟩ := O
  have k := tt_nlR M d e
  obtain ⟨M1, M2, ⟨M3, M4⟩, M5⟩ := M
  have n : h_n h = h_n h0 := congrArg Prod.fst M1
  unfold tt_O
  rw [M2, M3, n]
  exact ⟨a, b, c, k, f⟩
theorem l_cj7 {sh nd m : Nat} {x : Int64} (O : tt_O h0 sh nd) (C : cho x m) (m12 : m ≤ 12) (g : ∀ (lv : List (Nat × Value)) (h : MH) (H : Nat → Nat → Int), RX h0 h H → H sh 3 = (m : Int) → (∀ t, t < m → H (h_r h0 sh 1) t = ((nb_ x t 64 : Nat) : Int)) → (∀ a, a ≠ sh → a ≠ h_r h0 sh 1 → H a = z_i h0 a) → m_lk lv 0 = some (.ref sh) → HJ 158 59 lv [] h Q) : ∀ (d v : Nat) (lv : List (Nat × Value)) (h : MH) (H : Nat → Nat → Int) (xv : Int32), v + d = 41 → RX h0 h H → H sh 3 = (cb_n x v : Int) → (∀ t, t < cb_n x v → H (h_r h0 sh 1) t = ((nb_ x t 64 : Nat) : Int)) → (∀ a, a ≠ sh → a ≠ h_r h0 sh 1 → H a = z_i h0 a) → xv.toInt = (v : Int) → m_lk lv 0 = some (.ref sh) → m_lk lv 1 = some (.long x) → m_lk lv 3 = some (.int xv) → HJ 158 7 lv [] h Q := by
  obtain ⟨⟨ns, nc⟩, -⟩ := tt_ne O
  obtain ⟨⟨ks, s16, sn⟩, -, ⟨kc, c16, -, lc⟩, -⟩ := id O
  have e41 : cb_n x 41 = m := by rw [C.1, am_64 C.2 (Nat.le_refl _)]
  intro d
  induction d with
  | zero =>
    intro v lv h H xv hd M I3 It o qv e0 e1 e3
    have ev : v = 41 := by omega
    subst ev
    rw [e41] at I3 It
    exact r_cj7 M e0 e1 e3 qv ks (fun _ => g lv h H M I3 It o e0) (fun _ _ => g lv h H M I3 It o e0) (fun c => absurd c (by omega))
  | succ d ih =>
    intro v lv h H xv hd M I3 It o qv e0 e1 e3
    have mono := og_cl (x := x) (a := v) (b := 41) (by omega)
    refine r_cj7 M e0 e1 e3 qv ks (fun c => absurd c (by omega)) (fun _ c => ?_) (fun _ c => ?_)
    · have ec : cb_n x v = m := by omega
      rw [ec] at I3 It
      exact g lv h H M I3 It o e0
    refine k_bit M qv ?_
    show HJ 158 27 lv [.long (bt (v : Int)), .long x] h Q
    have key := bs_nz (x := x) (v := v) (by omega)
    refine r_cj27 M e0 e1 e3 qv (by omega) (by omega) nc ks kc lc c16 (fun c => ?_) (fun h3 H3 f3 h7 H7 f7 M7 c => ?_)
    · have nb : bs x v ≠ true := by
        rw [key.mp (lg_0.mp c)]
        decide
      have e := og_c0 nb
      exact r_cj53 M e0 e1 e3 qv (by omega) (by omega) (fun x1 q1 lv1 a0 a1 a3 => ih (v + 1) lv1 h H x1 (by omega) M (by rw [e]; exact I3) (by rw [e]; exact It) o (by omega) a0 a1 a3)
    · have nb : bs x v = true := by
        cases e : bs x v with
        | true => rfl
        | false => exact absurd (lg_0.mpr (key.mpr e)) c
      have e := og_c1 nb
      have na := nb_at nb 64 (by omega)
      rw [I3] at f7
      rw [I3, Int.toNat_natCast] at f3
      refine r_cj53 M7 e0 e1 e3 qv (by omega) (by omega) (fun x1 q1 lv1 a0 a1 a3 => ih (v + 1) lv1 h7 H7 x1 (by omega) M7 ?_ (fun t ht => ?_) (fun a h1 h2 => by rw [f7, m_uN _ _ _ _ h1, f3, m_uN _ _ _ _ h2]; exact o a h1 h2) (by omega) a0 a1 a3)
      · rw [f7, m_uE, m_uE, e]
        omega
      · rw [f7, m_uN _ _ _ _ nc, f3, m_uE]
        by_cases et : t = cb_n x v
        · rw [et, m_uE, na]
        · rw [m_uN _ _ _ _ et]
          exact It t (by omega)
-- behind a new table
theorem tt_new {h : MH} {sh nd k : Nat} (O : tt_O h sh nd) (k1 : k ≤ 1000000) : tt_O (h_sr (h_new h 20 k k) sh 0 (16 + h_n h)) sh nd ∧ (∀ j, ho_L (h_sr (h_new h 20 k k) sh 0 (16 + h_n h)) nd j = ho_L h nd j) ∧ (∀ a, a < 16 + h_n h → ∀ j, z_i (h_sr (h_new h 20 k k) sh 0 (16 + h_n h)) a j = z_i h a j) ∧ h_r (h_sr (h_new h 20 k k) sh 0 (16 + h_n h)) sh 1 = h_r h sh 1 ∧ (h_k (h_sr (h_new h 20 k k) sh 0 (16 + h_n h)) (h_r (h_sr (h_new h 20 k k) sh 0 (16 + h_n h)) sh 0)).2 = k := by
  obtain ⟨⟨a1, a2, a3⟩, ⟨b1, b2, b3, b4⟩, ⟨c1, c2, c3, c4⟩, ⟨⟨d1, d2, d3⟩, ⟨f1, f2, f3⟩, ⟨g1, g2, g3⟩, g4, ⟨g5, g6⟩, g7, g8⟩, ne1, ne2⟩ := O
  have nw : h_n h = h.1.1 := rfl
  have kk : ∀ a, a < 16 + h_n h → h_k (h_sr (h_new h 20 k k) sh 0 (16 + h_n h)) a = h_k h a := fun a ha => m_uN _ _ _ _ (by omega)
  have kN : h_k (h_sr (h_new h 20 k k) sh 0 (16 + h_n h)) (16 + h_n h) = (20, k) := m_uE _ _ _
  have ii : ∀ a, a < 16 + h_n h → h_i (h_sr (h_new h 20 k k) sh 0 (16 + h_n h)) a = h_i h a := fun a ha => m_uN _ _ _ _ (by omega)
  have ll : ∀ a, a < 16 + h_n h → h_l (h_sr (h_new h 20 k k) sh 0 (16 + h_n h)) a = h_l h a := fun a ha => m_uN _ _ _ _ (by omega)
  have r0 : h_r (h_sr (h_new h 20 k k) sh 0 (16 + h_n h)) sh 0 = 16 + h_n h := by
    show m_u _ sh (m_u _ 0 (16 + h_n h)) sh 0 = _
    rw [m_uE, m_uE]
  have rs : ∀ j, j ≠ 0 → h_r (h_sr (h_new h 20 k k) sh 0 (16 + h_n h)) sh j = h_r h sh j := fun j hj => by
    show m_u (m_u h.2.2.2.2 (16 + h.1.1) (fun _ => 0)) sh (m_u ((m_u h.2.2.2.2 (16 + h.1.1) (fun _ => 0)) sh) 0 (16 + h_n h)) sh j = _
    rw [m_uE, m_uN _ _ _ _ hj, m_uN _ _ _ _ (by omega)]
    rfl
  have rr : ∀ a, a < 16 + h_n h → a ≠ sh → ∀ j, h_r (h_sr (h_new h 20 k k) sh 0 (16 + h_n h)) a j = h_r h a j := fun a ha hs j => by
    show m_u (m_u h.2.2.2.2 (16 + h.1.1) (fun _ => 0)) sh (m_u ((m_u h.2.2.2.2 (16 + h.1.1) (fun _ => 0)) sh) 0 (16 + h_n h)) a j = _
    rw [m_uN _ _ _ _ hs, m_uN _ _ _ _ (by omega)]
    rfl
  have hn : h_n (h_sr (h_new h 20 k k) sh 0 (16 + h_n h)) = h_n h + 1 := rfl
  have zz : ∀ a, a < 16 + h_n h → ∀ j, z_i (h_sr (h_new h 20 k k) sh 0 (16 + h_n h)) a j = z_i h a j := fun a ha j => by
    show (h_i _ a j).toInt = (h_i h a j).toInt
    rw [ii a ha]
  refine ⟨⟨⟨by rw [kk _ a3]; exact a1, a2, by rw [hn]; omega⟩, ⟨by rw [r0, kN], by rw [r0]; omega, by rw [r0, hn]; omega, by rw [r0, kN]; exact k1⟩, ⟨by rw [rs 1 (by decide), kk _ c3]; exact c1, by rw [rs 1 (by decide)]; exact c2, by rw [rs 1 (by decide), hn]; omega, by rw [rs 1 (by decide), kk _ c3]; exact c4⟩, ⟨⟨by rw [kk _ d3]; exact d1, d2, by rw [hn]; omega⟩, ⟨by rw [rr nd d3 (Ne.symm ne2), kk _ f3]; exact f1, by rw [rr nd d3 (Ne.symm ne2)]; exact f2, by rw [rr nd d3 (Ne.symm ne2), hn]; omega⟩, ⟨by rw [rr nd d3 (Ne.symm ne2), kk _ g3]; exact g1, by rw [rr nd d3 (Ne.symm ne2)]; exact g2, by rw [rr nd d3 (Ne.symm ne2), hn]; omega⟩, by rw [rr nd d3 (Ne.symm ne2), rr nd d3 (Ne.symm ne2), kk _ f3, kk _ g3]; exact g4, ⟨by rw [zz _ d3]; exact g5, by rw [zz _ d3, rr nd d3 (Ne.symm ne2), kk _ g3]; exact g6⟩, by rw [rr nd d3 (Ne.symm ne2), kk _ g3]; exact g7, by rw [rr nd d3 (Ne.symm ne2), kk _ g3]; exact g8⟩, by rw [r0, rs 1 (by decide)]; omega, ne2⟩, fun j => ?_, zz, rs 1 (by decide), by rw [r0, kN]⟩
  show h_l _ (h_r _ nd 1) j = h_l h (h_r h nd 1) j
  rw [rr nd d3 (Ne.symm ne2), ll _ g3]
theorem k_choose {sh nd m n : Nat} {x : Int64} {L : Nat → Int64} (O : tt_O h sh nd) (C : cho x m) (m12 : m ≤ 12) (en : z_i h nd 5 = (n : Int)) (eL : ∀ j, ho_L h nd j = L j) (g : ∀ (h1 h2 : MH) (H : Nat → Nat → Int), tt_O h1 sh nd → RX h1 h2 H → tt_C h1 sh nd m n x L H → (∀ b, b < 2 ^ m → H (h_r h1 sh 0) b = 0) → z_i h1 nd 5 = (n : Int) → Q none h2) : HJ 158 0 (lv_args 0 [.ref sh, .long x]) [] h Q := by
  obtain ⟨⟨ns, nc⟩, nn0, nn1⟩ := tt_ne O
  obtain ⟨⟨ks, s16, sn⟩, ⟨kt, t16, tl, tz⟩, ⟨kc, c16, cl, lc⟩, on, ne1, ne2⟩ := id O
  have pw := p12 (i := m) m12
  refine r_cj0 (RX.start h) rfl rfl ks (fun h2 H2 f2 x3 q3 lv4 M2 a0 a1 a3 => ?_)
  refine l_cj7 (m := m) O C m12 (fun lv5 h5 H5 M5 I3 It o5 b0 => ?_) 41 0 lv4 h2 H2 x3 rfl M2 (by rw [f2, m_uE, m_uE]; rfl) (fun t ht => absurd ht (Nat.not_lt_zero t)) (fun a h1 _ => by rw [f2, m_uN _ _ _ _ h1]; rfl) q3 a0 a1 a3
  have nd5 : H5 nd 5 = z_i h nd 5 := by rw [o5 nd (Ne.symm ne2) (Ne.symm nn1)]
  have e3 : (H5 sh 3).toNat = m := by omega
  -- behind the table: all of it zero
  have fin : ∀ (h6 : MH) (H6 : Nat → Nat → Int) (lv6 : List (Nat × Value)), tt_O h6 sh nd → tt_C h6 sh nd m n x L H6 → RX h6 h6 H6 → m_lk lv6 0 = some (.ref sh) → HJ 158 85 lv6 [] h6 Q := fun h6 H6 lv6 O6 C6 M6 c0 => by
    obtain ⟨⟨ns6, nc6⟩, n06, n16⟩ := tt_ne O6
    obtain ⟨⟨k6, s6, -⟩, ⟨t6, u6, -, v6⟩, -, on6, ne6, ne7⟩ := id O6
    obtain ⟨C1, C2, C3, C4, C5⟩ := C6
    refine r_cj85 M6 c0 k6 (fun x1 q1 => ?_)
    refine k_fill M6 t6 u6 v6 q1 (fun h7 H7 M7 o7 f7 => ?_)
    show HJ 158 93 lv6 [] h7 Q
    refine r_cj93 (sh := sh) M7 (g h6 h7 H7 O6 M7 ⟨?_, fun t ht => ?_, ?_, C4, C5⟩ (fun b hb => f7 b (by omega)) ?_)
    · rw [o7 _ (Ne.symm ns6)]
      exact C1
    · rw [o7 _ (Ne.symm ne6)]
      exact C2 t ht
    · rw [o7 _ (Ne.symm n06)]
      exact C3
    · have := M6.2.2.2 nd 5
      show (h_i h6 nd 5).toInt = _
      rw [this]
      exact C3
  have M5' : RX h5 h5 H5 := ⟨rfl, rfl, ⟨rfl, rfl⟩, M5.2.2.2⟩
  have O5 := tt_OR M5 O nd5
  have C5 : ((2 ^ m : Nat) : Int) ≤ ((h_k h (h_r h sh 0)).2 : Int) → tt_C h5 sh nd m n x L H5 := fun c => by
    refine ⟨I3, fun t ht => by rw [M5.2.2.1.1]; exact It t ht, by rw [nd5, en], by rw [M5.2.1, M5.2.2.1.1]; exact c, fun j => ?_⟩
    rw [← eL j]
    show h_l h5 (h_r h5 nd 1) j = h_l h (h_r h nd 1) j
    rw [M5.2.2.1.1, M5.2.2.1.2]
  refine r_cj59 M5 b0 (by omega) (by omega) ks (by rw [kt]; decide) (by omega) (fun c => ?_) (fun c => ?_)
  · rw [e3, pw.1] at c
    exact fin h5 H5 lv5 O5 (C5 c) M5' b0
  · refine r_cj73 M5 b0 (by omega) (by omega) ks (fun x6 q6 => ?_)
    rw [e3, pw.1] at q6
    have kx : x6.toInt.toNat = 2 ^ m := by rw [q6, Int.toNat_natCast]
    have b6 : x6.toInt ≤ 1000000 := by
      rw [q6]
      exact Int.ofNat_le.mpr (Nat.le_trans pw.2 (by decide))
    have b60 : 0 ≤ x6.toInt := by
      rw [q6]
      exact Int.natCast_nonneg _
    refine hI_newa rfl (by decide) b60 b6 rfl ?_
    show HJ 158 82 lv5 [.ref (16 + h_n h5), .ref sh] (h_new h5 20 x6.toInt.toNat x6.toInt.toNat) Q
    rw [kx]
    obtain ⟨N1, N2, N3, N4, N5⟩ := tt_new (k := 2 ^ m) O5 (Nat.le_trans pw.2 (by decide))
    have k5 : (h_k (h_new h5 20 (2 ^ m) (2 ^ m)) sh).1 = 6 := by
      have e : h_k (h_new h5 20 (2 ^ m) (2 ^ m)) sh = h_k h5 sh := m_uN _ _ _ _ (by have := O5.1.2.2; show sh ≠ 16 + h_n h5; omega)
      rw [e]
      exact O5.1.1
    refine hN_pr (c := 5) (k := 0) rfl rfl k5 ⟨by decide, by decide +kernel, rfl, fun z => absurd z (by decide +kernel)⟩ rfl ?_
    have bound : ∀ a, a < 16 + h_n h5 → ∀ j, z_i (h_sr (h_new h5 20 (2 ^ m) (2 ^ m)) sh 0 (16 + h_n h5)) a j = H5 a j := fun a ha j => by
      rw [N3 a ha j]
      exact M5.2.2.2 a j
    refine fin _ (z_i _) lv5 N1 ⟨?_, fun t ht => ?_, ?_, by rw [N5]; exact Int.le_refl _, fun j => ?_⟩ (RX.start _) b0
    · rw [bound sh O5.1.2.2]
      exact I3
    · rw [N4, bound _ O5.2.2.1.2.2.1, M5.2.2.1.1]
      exact It t ht
    · rw [bound nd O5.2.2.2.1.1.2.2, nd5, en]
    · rw [N2 j, ← eL j]
      show h_l h5 (h_r h5 nd 1) j = h_l h (h_r h nd 1) j
      rw [M5.2.2.1.1, M5.2.2.1.2]
-- packed
theorem lub_ {x : Int64} {v : Nat} (hv : v ≤ 40) : ((lu_sh x (v : Int)) &&& (Int64.ofNat (1 : Fin 2).val)).toInt32.toInt = if bs x v = true then 1 else 0 := by
  have sh : ∀ k : Fin 41, ((Int32.ofInt (k.val : Int)).toInt64.toUInt64 &&& Int64.toUInt64 63).toNat % 64 = k.val := by decide +kernel
  have e := lu_N x (z := (v : Int)) (k := v) (sh ⟨v, by omega⟩)
  have o1 : (Int64.ofNat (1 : Fin 2).val).toBitVec.toNat = 1 := by decide
  have t : ((lu_sh x (v : Int)) &&& (Int64.ofNat (1 : Fin 2).val)).toBitVec.toNat = x.toBitVec.toNat / 2 ^ v % 2 := by
    rw [Int64.toBitVec_and, BitVec.toNat_and, e, o1, Nat.and_one_is_mod]
  have t2 : (((lu_sh x (v : Int)) &&& (Int64.ofNat (1 : Fin 2).val)).toInt32).toBitVec.toNat = x.toBitVec.toNat / 2 ^ v % 2 := by
    rw [Int64.toBitVec_toInt32, BitVec.signExtend_eq_setWidth_of_le _ (by decide), BitVec.toNat_setWidth, t]
    omega
  have b : bs x v = decide (x.toBitVec.toNat / 2 ^ v % 2 = 1) := by
    show x.toBitVec.toNat.testBit v = _
    exact Nat.testBit_eq_decide_div_mod_eq
  have r := iN_b t2 (by have : x.toBitVec.toNat / 2 ^ v % 2 < 2 := Nat.mod_lt _ (by decide); omega)
  show (((lu_sh x (v : Int)) &&& (Int64.ofNat (1 : Fin 2).val)).toInt32).toBitVec.toInt = _
  rw [r, b]
  by_cases c : x.toBitVec.toNat / 2 ^ v % 2 = 1
  · rw [if_pos (decide_eq_true c), c]
    rfl
  · rw [if_neg (fun z => c (of_decide_eq_true z))]
    omega
theorem k_packed {sh nd m n : Nat} {x y : Int64} {L : Nat → Int64} (M : RX h0 h H) (O : tt_O h0 sh nd) (C : cho x m) (m12 : m ≤ 12) (I : tt_C h0 sh nd m n x L H) (g : ∀ z : Int32, z.toInt = (pz_ x y m : Int) → Q (some (.int z)) h) : HJ 159 0 (lv_args 0 [.ref sh, .long y]) [] h Q := by
  obtain ⟨⟨ks, s16, sn⟩, -, ⟨kc, c16, cl, lc⟩, -⟩ := id O
  obtain ⟨I3, It, -⟩ := id I
  have loop : ∀ (d i : Nat) (lv : List (Nat × Value)) (xb xi : Int32), i + d = m → xb.toInt = (pz_ x y i : Int) → xi.toInt = (i : Int) → m_lk lv 0 = some (.ref sh) → m_lk lv 1 = some (.long y) → m_lk lv 3 = some (.int xb) → m_lk lv 4 = some (.int xi) → HJ 159 5 lv [] h Q := by
    intro d
    induction d with
    | zero =>
      intro i lv xb xi hd qb qi e0 e1 e3 e4
      have ei : i = m := by omega
      subst ei
      exact r_pq5 M e0 e1 e3 qb e4 qi (by omega) (by omega) (by omega) ks kc lc (fun _ => g xb qb) (fun _ _ _ _ _ _ _ _ _ _ _ _ _ c => absurd c (by omega))
    | succ d ih =>
      intro i lv xb xi hd qb qi e0 e1 e3 e4
      refine r_pq5 M e0 e1 e3 qb e4 qi (by omega) (by omega) (by omega) ks kc lc (fun c => absurd c (by omega)) (fun x3 q3 x4 q4 x5 q5 x7 q7 lv7 a0 a1 a3 a4 _ => ?_)
      rw [Int.toNat_natCast, It i (by omega), lub_ (cho_n C (by omega)).1] at q3
      refine ih (i + 1) lv7 x5 x7 (by omega) ?_ (by omega) a0 a1 a3 a4
      have l := pz_lt (x := x) (y := y) i
      have l2 := (p12 (i := i) (by omega)).2
      have ei : xi = Int32.ofInt (i : Int) := by rw [← qi, Int32.ofInt_toInt]
      rw [q5, pz_]
      by_cases b : bs y (nb_ x i 64) = true
      · rw [if_pos b] at q3 ⊢
        have e3 : x3 = 1 := Int32.toInt_inj.mp (by rw [q3]; rfl)
        rw [e3, ei] at q4
        have q4 : x4.toInt = ((2 ^ i : Nat) : Int) := q4.trans (zs_12 ⟨i, by omega⟩)
        rw [iN_or qb q4 (by omega) (by omega)]
        have e := Nat.two_pow_add_eq_or_of_lt l 1
        rw [Nat.mul_one] at e
        rw [Nat.or_comm, ← e]
      · rw [if_neg b] at q3 ⊢
        have e3 : x3 = 0 := Int32.toInt_inj.mp (by rw [q3]; rfl)
        rw [e3, ei] at q4
        have q4 : x4.toInt = ((0 : Nat) : Int) := q4.trans (zs_0 ⟨i, by omega⟩)
        rw [iN_or qb q4 (by omega) (by decide), Nat.or_zero]
  exact r_pq0 M rfl rfl (fun x1 q1 x3 q3 lv4 a0 a1 a3 a4 => loop m 0 lv4 x1 x3 (by omega) q1 q3 a0 a1 a3 a4)
-- the sums
theorem l_sm12 {sh nd m n i : Nat} {x : Int64} {L : Nat → Int64} {xi : Int32} {C : Int64 → Bool} (O : tt_O h0 sh nd) (m12 : m ≤ 12) (hi : i < m) (n1 : n ≤ 15120) (qi : xi.toInt = (i : Int)) (g : ∀ (lv : List (Nat × Value)) (h : MH) (H : Nat → Nat → Int), RX h0 h H → tt_C h0 sh nd m n x L H → (∀ b, b < 2 ^ m → H (h_r h0 sh 0) b = (tn_ C x m L n (i + 1) b : Int)) → m_lk lv 0 = some (.ref sh) → m_lk lv 1 = some (.int xi) → HJ 160 55 lv [] h Q) : ∀ (d j : Nat) (lv : List (Nat × Value)) (h : MH) (H : Nat → Nat → Int) (xj : Int32), j + d = 2 ^ m → RX h0 h H → tt_C h0 sh nd m n x L H → (∀ b, b < 2 ^ m → H (h_r h0 sh 0) b = if b < j then (tn_ C x m L n (i + 1) b : Int) else (tn_ C x m L n i b : Int)) → xj.toInt = (j : Int) → m_lk lv 0 = some (.ref sh) → m_lk lv 1 = some (.int xi) → m_lk lv 2 = some (.int xj) → HJ 160 12 lv [] h Q := by
  obtain ⟨⟨ns, nc⟩, nn0, nn1⟩ := tt_ne O
  obtain ⟨⟨ks, s16, sn⟩, ⟨kt, t16, tl, tz⟩, ⟨kc, c16, cl, lc⟩, on, ne1, ne2⟩ := id O
  have pw := p12 (i := m) m12
  intro d
  induction d with
  | zero =>
    intro j lv h H xj hd M I T qj e0 e1 e2
    have e3 : (H sh 3).toNat = m := by
      have := I.1
      omega
    have I3 := I.1
    refine r_sm12 M e0 e1 qi e2 qj (by omega) (by omega) ks (fun _ => g lv h H M I (fun b hb => by rw [T b hb, if_pos (by omega)]) e0 e1) (fun c => ?_)
    rw [e3, pw.1] at c
    exact absurd c (by omega)
  | succ d ih =>
    intro j lv h H xj hd M I T qj e0 e1 e2
    have I3 := I.1
    have I4 := I.2.2.2.1
    have e3 : (H sh 3).toNat = m := by omega
    have jN : j < 2 ^ 30 := by
      have : (2 : Nat) ^ 30 = 1073741824 := by decide
      omega
    refine r_sm12 M e0 e1 qi e2 qj (by omega) (by omega) ks (fun c => ?_) (fun _ => ?_)
    · rw [e3, pw.1] at c
      exact absurd c (by omega)
    have next : ∀ (h6 : MH) (H6 : Nat → Nat → Int), RX h0 h6 H6 → tt_C h0 sh nd m n x L H6 → (∀ b, b < 2 ^ m → H6 (h_r h0 sh 0) b = if b < j + 1 then (tn_ C x m L n (i + 1) b : Int) else (tn_ C x m L n i b : Int)) → HJ 160 49 lv [] h6 Q := fun h6 H6 M6 I6 T6 => by
      exact r_sm49 M6 e0 e1 qi e2 qj (by omega) (by omega) (fun x1 q1 lv1 a0 a1 a2 => ih (j + 1) lv1 h6 H6 x1 (by omega) M6 I6 T6 (by omega) a0 a1 a2)
    refine hI_il (k := 2) rfl e2 rfl ?_
    refine hI_il (k := 1) rfl e1 rfl ?_
    refine hM_usN rfl qj jN qi (by omega) rfl (fun w1 p1 => ?_)
    refine hM_ic (n := 1) rfl (by decide) rfl (fun w2 p2 => ?_)
    refine hM_an1 rfl p1 p2 rfl (fun w3 p3 => ?_)
    refine hM_zeq (off := 22) (t := 49) rfl p3 (by decide) rfl (fun c => ?_) (fun c => ?_)
    · have nb : Nat.testBit j i = false := by
        cases q : Nat.testBit j i with
        | false => rfl
        | true =>
          have := tb_dg.mp q
          omega
      refine next h H M I (fun b hb => ?_)
      rw [T b hb]
      by_cases e : b = j
      · subst e
        rw [if_neg (by omega), if_pos (by omega), tn_F hi nb]
      · by_cases l : b < j
        · rw [if_pos l, if_pos (by omega)]
        · rw [if_neg l, if_neg (by omega)]
    · have yb : Nat.testBit j i = true := tb_dg.mpr (by omega)
      have xl := xb_less yb
      have jm : j < 2 ^ m := by omega
      have Tj := T j jm
      rw [if_neg (by omega)] at Tj
      have Tx := T (j ^^^ 2 ^ i) (xb_lt jm hi)
      rw [if_pos xl, tn_F hi (by rw [xb_t, yb, decide_eq_true rfl]; rfl)] at Tx
      have b1 := tn_L (C := C) (x := x) (m := m) (i := i) (b := j) (L := L) n
      have b2 := tn_L (C := C) (x := x) (m := m) (i := i) (b := j ^^^ 2 ^ i) (L := L) n
      have pi := p12 (i := i) (by omega)
      show HJ 160 30 lv [] h Q
      refine r_sm30 (T := ((2 ^ m : Nat) : Int)) M e0 e1 qi e2 qj (by omega) (by omega) (by omega) (by omega) ks kt I4 (fun x1 q1 x3 q3 x4 q4 => ?_)
      rw [Int.toNat_natCast] at q1 q3
      rw [pi.1] at q3
      rw [iN_xor qj q3 jN (by have : (2 : Nat) ^ 30 = 1073741824 := by decide
                              omega)] at q4
      refine r_sm46 (T := ((2 ^ m : Nat) : Int)) (t := (tn_ C x m L n i j : Int)) M e0 e1 qi e2 qj qj (q1.trans Tj) q4 (by omega) (by omega) (by omega) (by omega) (by omega) (by omega) (by rw [Int.toNat_natCast, Tx]; omega) (by rw [Int.toNat_natCast, Tx]; omega) kt I4 t16 (fun h3 H3 f3 M3 => ?_)
      rw [Int.toNat_natCast, Int.toNat_natCast, Tx] at f3
      have o3 : ∀ a, a ≠ h_r h0 sh 0 → H3 a = H a := fun a ha => by rw [f3, m_uN _ _ _ _ ha]
      refine next h3 H3 M3 ⟨by rw [o3 _ (Ne.symm ns)]; exact I.1, fun t ht => by rw [o3 _ (Ne.symm ne1)]; exact I.2.1 t ht, by rw [o3 _ (Ne.symm nn0)]; exact I.2.2.1, I4, I.2.2.2.2⟩ (fun b hb => ?_)
      rw [f3, m_uE]
      by_cases e : b = j
      · subst e
        rw [m_uE, if_pos (by omega), tn_S hi yb]
        omega
      · rw [m_uN _ _ _ _ e, T b hb]
        by_cases l : b < j
        · rw [if_pos l, if_pos (by omega)]
        · rw [if_neg l, if_neg (by omega)]
theorem k_sums {sh nd m n : Nat} {x : Int64} {L : Nat → Int64} {C : Int64 → Bool} (M : RX h0 h H) (O : tt_O h0 sh nd) (m12 : m ≤ 12) (n1 : n ≤ 15120) (I : tt_C h0 sh nd m n x L H) (T : ∀ b, b < 2 ^ m → H (h_r h0 sh 0) b = (tn_ C x m L n 0 b : Int)) (g : ∀ (h' : MH) (H' : Nat → Nat → Int), RX h0 h' H' → tt_C h0 sh nd m n x L H' → (∀ b, b < 2 ^ m → H' (h_r h0 sh 0) b = (tn_ C x m L n m b : Int)) → Q none h') : HJ 160 0 (lv_args 0 [.ref sh]) [] h Q := by
  have ks := O.1.1
  have loop : ∀ (d i : Nat) (lv : List (Nat × Value)) (h : MH) (H : Nat → Nat → Int) (xi : Int32), i + d = m → RX h0 h H → tt_C h0 sh nd m n x L H → (∀ b, b < 2 ^ m → H (h_r h0 sh 0) b = (tn_ C x m L n i b : Int)) → xi.toInt = (i : Int) → m_lk lv 0 = some (.ref sh) → m_lk lv 1 = some (.int xi) → HJ 160 2 lv [] h Q := by
    intro d
    induction d with
    | zero =>
      intro i lv h H xi hd M I T qi e0 e1
      have ei : i = m := by omega
      subst ei
      have I3 := I.1
      exact r_sm2 M e0 e1 qi ks (fun _ => g h H M I T) (fun _ _ _ _ _ _ c => absurd c (by omega))
    | succ d ih =>
      intro i lv h H xi hd M I T qi e0 e1
      have I3 := I.1
      refine r_sm2 M e0 e1 qi ks (fun c => absurd c (by omega)) (fun x2 q2 lv3 a0 a1 a2 _ => ?_)
      refine l_sm12 (C := C) O m12 (show i < m by omega) n1 qi (fun lv5 h5 H5 M5 I5 T5 b0 b1 => ?_) (2 ^ m) 0 lv3 h H x2 (by omega) M I (fun b hb => by rw [if_neg (Nat.not_lt_zero b)]; exact T b hb) q2 a0 a1 a2
      exact r_sm55 M5 b0 b1 qi (by omega) (by omega) (fun x6 q6 lv6 c0 c1 => ih (i + 1) lv6 h5 H5 x6 (by omega) M5 I5 T5 (by omega) c0 c1)
  exact r_sm0 M rfl (fun x1 q1 lv2 a0 a1 => loop m 0 lv2 h H x1 (by omega) M I T q1 a0 a1)
-- unpacked
theorem k_unpk {sh nd m n b : Nat} {x : Int64} {L : Nat → Int64} {xb : Int32} (M : RX h0 h H) (O : tt_O h0 sh nd) (m12 : m ≤ 12) (I : tt_C h0 sh nd m n x L H) (qb : xb.toInt = (b : Int)) (b1 : b ≤ 4096) (g : Q (some (.long (un_ x b m))) h) : HJ 161 0 (lv_args 0 [.ref sh, .int xb]) [] h Q := by
  obtain ⟨⟨ks, s16, sn⟩, -, ⟨kc, c16, cl, lc⟩, -⟩ := id O
  obtain ⟨I3, It, -⟩ := id I
  have bN : b < 2 ^ 30 := by
    have : (2 : Nat) ^ 30 = 1073741824 := by decide
    omega
  have loop : ∀ (d i : Nat) (lv : List (Nat × Value)) (xi : Int32), i + d = m → xi.toInt = (i : Int) → m_lk lv 0 = some (.ref sh) → m_lk lv 1 = some (.int xb) → m_lk lv 2 = some (.long (un_ x b i)) → m_lk lv 4 = some (.int xi) → HJ 161 5 lv [] h Q := by
    intro d
    induction d with
    | zero =>
      intro i lv xi hd qi e0 e1 e2 e4
      have ei : i = m := by omega
      subst ei
      exact r_uq5 M e0 e1 qb e2 e4 qi ks (fun _ => g) (fun c => absurd c (by omega))
    | succ d ih =>
      intro i lv xi hd qi e0 e1 e2 e4
      refine r_uq5 M e0 e1 qb e2 e4 qi ks (fun c => absurd c (by omega)) (fun _ => ?_)
      have next : ∀ (lv3 : List (Nat × Value)), m_lk lv3 0 = some (.ref sh) → m_lk lv3 1 = some (.int xb) → m_lk lv3 2 = some (.long (un_ x b (i + 1))) → m_lk lv3 4 = some (.int xi) → HJ 161 36 lv3 [] h Q := fun lv3 a0 a1 a2 a4 =>
        r_uq36 M a0 a1 qb a2 a4 qi (by omega) (by omega) (fun x1 q1 lv1 c0 c1 c2 c4 => ih (i + 1) lv1 x1 (by omega) (by omega) c0 c1 c2 c4)
      refine hI_il (k := 1) rfl e1 rfl ?_
      refine hI_il2 (k := 4) rfl e4 rfl ?_
      refine hM_usN rfl qb bN qi (by omega) rfl (fun w1 p1 => ?_)
      refine hM_ic (n := 1) rfl (by decide) rfl (fun w2 p2 => ?_)
      refine hM_an1 rfl p1 p2 rfl (fun w3 p3 => ?_)
      refine hM_zeq (off := 16) (t := 36) rfl p3 (by decide) rfl (fun c => ?_) (fun c => ?_)
      · refine next lv e0 e1 ?_ e4
        have nb : ¬ Nat.testBit b i = true := fun q => by
          have := tb_dg.mp q
          omega
        rw [un_, if_neg nb]
        exact e2
      · have yb : Nat.testBit b i = true := tb_dg.mpr (by omega)
        show HJ 161 23 lv [] h Q
        refine r_uq23 M e0 e1 qb e2 e4 qi (by omega) (by omega) ks kc lc (fun x1 q1 => ?_)
        rw [Int.toNat_natCast, It i (by omega)] at q1
        refine k_bit M q1 ?_
        show HJ 161 34 lv [.long (bt ((nb_ x i 64 : Nat) : Int)), .long (un_ x b i)] h Q
        refine r_uq34 M e0 e1 qb e4 qi (fun lv1 a0 a1 a2 a4 => next lv1 a0 a1 ?_ a4)
        rw [un_, if_pos yb]
        exact a2
  exact r_uq0 M rfl rfl qb (fun x2 q2 lv3 a0 a1 a2 a4 => loop m 0 lv3 x2 (by omega) q2 a0 a1 a2 a4)
-- how many bits
theorem bc_4k : (List.range 4096).all (fun a => ((bc_5 (bc_4 (bc_3 (bc_2 (bc_1 (Int32.ofInt (a : Int))))))) &&& (Int8.ofInt 63).toInt32).toInt == ((pn_ a 12 : Nat) : Int)) = true := by decide +kernel
theorem k_bci {x : Int32} {a : Nat} (q : x.toInt = (a : Int)) (a1 : a < 4096) (g : ∀ w : Int32, w.toInt = (pn_ a 12 : Int) → Q (some (.int w)) h) : HJ 82 0 (lv_args 0 [.int x]) [] h Q := by
  have ex : x = Int32.ofInt a := by
    rw [← q, Int32.ofInt_toInt]
  subst ex
  have k := List.all_eq_true.mp bc_4k a (List.mem_range.mpr a1)
  exact k_bcG (g _ (eq_of_beq k))
end
-- THE REFERENCE: a set's versions, one after the other
section
variable {lv : List (Nat × Value)} {Q : Option Value → MH → Prop} {W : List (Nat × Nat)} {ρ : Nat → Nat} {m : Nat} {A : Nat → Nat} {h0 h : MH} {F : Nat → Int} {V : Nat → Nat → Int} {G : Nat → Nat → Int64}
theorem l_listV {x : Int64} {n : Nat} {F0 : Nat → Int} {V0 : Nat → Nat → Int} (hw : d_sub g_lsW W = true) (f35 : F0 35 = (n : Int)) (n41 : n ≤ 41) (g : ∀ (z : Int32) (h' : MH) (F' : Nat → Int) (V' : Nat → Nat → Int), MX 49 W ρ m A h0 h' F' V' G → (∀ K, K ≠ 47 → F' K = F0 K) → (∀ K, K ≠ 48 → V' K = V0 K) → ((z.toInt = 1 ∧ F' 47 = (cb_n x n : Int) ∧ ∀ k, k < cb_n x n → V' 48 k = ((nb_ x k 64 : Nat) : Int)) ∨ (z.toInt = 0 ∧ 12 < cb_n x n)) → Q (some (.int z)) h') : ∀ (d v : Nat) (lv : List (Nat × Value)) (h : MH) (F : Nat → Int) (V : Nat → Nat → Int) (xv : Int32), v + d = n → MX 49 W ρ m A h0 h F V G → (∀ K, K ≠ 47 → F K = F0 K) → (∀ K, K ≠ 48 → V K = V0 K) → F 47 = (cb_n x v : Int) → (∀ k, k < cb_n x v → V 48 k = ((nb_ x k 64 : Nat) : Int)) → xv.toInt = (v : Int) → m_lk lv 0 = some (.ref m) → m_lk lv 1 = some (.long x) → m_lk lv 3 = some (.int xv) → HJ 249 7 lv [] h Q := by
  intro d
  induction d with
  | zero =>
    intro v lv h F V xv hd M fo vo fc I hv e0 e1 e3
    have f35' := fo 35 (by decide)
    have ev : v = n := by omega
    subst ev
    exact s_ls7 M e0 e1 e3 hv (fun z q _ _ _ => g z h F V M fo vo (Or.inl ⟨q, fc, I⟩)) (fun _ _ c => by omega)
  | succ d ih =>
    intro v lv h F V xv hd M fo vo fc I hv e0 e1 e3
    have f35' := fo 35 (by decide)
    refine s_ls7 M e0 e1 e3 hv (fun z q _ _ _ => by omega) (fun _ _ c => ?_)
    refine c_hasB M hv (by omega) (fun z qz => ?_)
    refine s_ls20 (z := z.toInt) M e0 e1 e3 hv rfl (by omega) (by omega) (d_subm hw (by decide +kernel)) (fun x1 q1 lv1 d0 d1 d3 c => ?_) (fun h5 V5 f5 h9 F9 f9 x10 q10 lv10 M9 d0 d1 d3 c a2 _ _ => ?_) (fun x11 q11 c _ _ e12 => ?_)
    · have nb : bs x v ≠ true := fun y => by
        rw [if_pos y] at qz
        omega
      have e := og_c0 nb
      exact ih (v + 1) lv1 h F V x1 (by omega) M fo vo (by rw [e]; exact fc) (by rw [e]; exact I) (by omega) d0 d1 d3
    · have nb : bs x v = true := by
        cases e : bs x v with
        | true => rfl
        | false =>
          rw [e, if_neg (by decide)] at qz
          exact absurd qz c
      have e := og_c1 nb
      have na := nb_at nb 64 (by omega)
      refine ih (v + 1) lv10 h9 F9 V5 x10 (by omega) M9 (fun K hK => by rw [f9, m_uN _ _ _ _ hK, fo K hK]) (fun K hK => by rw [f5, m_uN _ _ _ _ hK, vo K hK]) (by rw [f9, m_uE, fc, e]; omega) (fun k hk => ?_) (by omega) d0 d1 d3
      rw [f5, m_uE, fc, Int.toNat_natCast]
      by_cases ek : k = cb_n x v
      · rw [ek, m_uE, na]
      · rw [m_uN _ _ _ _ ek]
        exact I k (by omega)
    · have nb : bs x v = true := by
        cases e : bs x v with
        | true => rfl
        | false =>
          rw [e, if_neg (by decide)] at qz
          exact absurd qz c
      have e := og_c1 nb
      have mo := og_cl (x := x) (a := v + 1) (b := n) (by omega)
      exact g x11 h F V M fo vo (Or.inr ⟨q11, by omega⟩)
theorem c_listV {x : Int64} {n : Nat} (M : MX 49 W ρ m A h0 h F V G) (hw : d_sub g_lsW W = true) (f35 : F 35 = (n : Int)) (n41 : n ≤ 41) (g : ∀ (z : Int32) (h' : MH) (F' : Nat → Int) (V' : Nat → Nat → Int), MX 49 W ρ m A h0 h' F' V' G → (∀ K, K ≠ 47 → F' K = F K) → (∀ K, K ≠ 48 → V' K = V K) → ((z.toInt = 1 ∧ F' 47 = (cb_n x n : Int) ∧ ∀ k, k < cb_n x n → V' 48 k = ((nb_ x k 64 : Nat) : Int)) ∨ (z.toInt = 0 ∧ 12 < cb_n x n)) → Q (some (.int z)) h') : HJ 249 0 (lv_args 0 [.ref m, .long x]) [] h Q := by
  have w1 : d_sub [(49, 47)] W = true := d_subm hw (by decide +kernel)
  refine s_ls0 M rfl rfl w1 (fun h2 F2 f2 x3 q3 lv4 M2 e0 e1 e3 => ?_)
  exact l_listV (F0 := F) (V0 := V) hw f35 n41 g n 0 lv4 h2 F2 V x3 (by omega) M2 (fun K hK => by rw [f2, m_uN _ _ _ _ hK]) (fun _ _ => rfl) (by rw [f2, m_uE]; rfl) (fun k hk => absurd hk (Nat.not_lt_zero k)) q3 e0 e1 e3
end
-- THE BEST of some codes: the first of those with fewest bits
def fw_ (ok : Nat → Bool) : Nat → Int
  | 0 => -1
  | v + 1 => if ok v = true ∧ (fw_ ok v = -1 ∨ pn_ v 12 < pn_ (fw_ ok v).toNat 12) then (v : Int) else fw_ ok v
theorem fw_R {ok : Nat → Bool} : ∀ n, fw_ ok n = -1 ∨ ∃ u : Nat, fw_ ok n = (u : Int) ∧ u < n ∧ ok u = true
  | 0 => Or.inl rfl
  | n + 1 => by
    rw [fw_]
    split
    · next c => exact Or.inr ⟨n, rfl, by omega, c.1⟩
    · rcases fw_R (ok := ok) n with h | ⟨u, h1, h2, h3⟩
      · exact Or.inl h
      · exact Or.inr ⟨u, h1, by omega, h3⟩
theorem fw_C {ok ok' : Nat → Bool} : ∀ n, (∀ v, v < n → ok v = ok' v) → fw_ ok n = fw_ ok' n
  | 0, _ => rfl
  | n + 1, h => by rw [fw_, fw_, fw_C n (fun v hv => h v (by omega)), h n (by omega)]
-- the same, begun with all
def cl_ (ok : Nat → Bool) (a : Nat) : Nat → Nat
  | 0 => a
  | v + 1 => if ok v = true ∧ pn_ v 12 < pn_ (cl_ ok a v) 12 then v else cl_ ok a v
theorem pn_al : (List.range 13).all (fun m => (List.range (2 ^ m - 1)).all (fun v => Nat.blt (pn_ v 12) (pn_ (2 ^ m - 1) 12))) = true := by decide +kernel
theorem pn_a {m v : Nat} (h : m ≤ 12) (hv : v < 2 ^ m - 1) : pn_ v 12 < pn_ (2 ^ m - 1) 12 := by
  have k := List.all_eq_true.mp (List.all_eq_true.mp pn_al m (List.mem_range.mpr (by omega))) v (List.mem_range.mpr hv)
  exact Nat.le_of_ble_eq_true k
theorem cl_R {ok : Nat → Bool} {m : Nat} (h : m ≤ 12) : ∀ n, n ≤ 2 ^ m - 1 → (fw_ ok n = -1 ∧ cl_ ok (2 ^ m - 1) n = 2 ^ m - 1) ∨ (fw_ ok n = (cl_ ok (2 ^ m - 1) n : Int) ∧ cl_ ok (2 ^ m - 1) n < n)
  | 0, _ => Or.inl ⟨rfl, rfl⟩
  | n + 1, hn => by
    rw [fw_, cl_]
    rcases cl_R (ok := ok) h n (by omega) with ⟨e1, e2⟩ | ⟨e1, e2⟩
    · have p := pn_a h (show n < 2 ^ m - 1 by omega)
      rw [e1, e2]
      by_cases c : ok n = true
      · rw [if_pos ⟨c, Or.inl rfl⟩, if_pos ⟨c, p⟩]
        exact Or.inr ⟨rfl, by omega⟩
      · rw [if_neg (fun z => c z.1), if_neg (fun z => c z.1)]
        exact Or.inl ⟨rfl, rfl⟩
    · generalize cl_ ok (2 ^ m - 1) n = u at *
      rw [e1, Int.toNat_natCast]
      by_cases c : ok n = true ∧ pn_ n 12 < pn_ u 12
      · rw [if_pos ⟨c.1, Or.inr c.2⟩, if_pos c]
        exact Or.inr ⟨rfl, by omega⟩
      · rw [if_neg (fun z => z.2.elim (fun y => by omega) (fun y => c ⟨z.1, y⟩)), if_neg c]
        exact Or.inr ⟨rfl, by omega⟩
theorem cl_E {ok : Nat → Bool} {m : Nat} (h : m ≤ 12) (al : ok (2 ^ m - 1) = true) : fw_ ok (2 ^ m) = (cl_ ok (2 ^ m - 1) (2 ^ m - 1) : Int) := by
  have p1 : 1 ≤ 2 ^ m := Nat.one_le_two_pow
  have e : fw_ ok (2 ^ m - 1 + 1) = if ok (2 ^ m - 1) = true ∧ (fw_ ok (2 ^ m - 1) = -1 ∨ pn_ (2 ^ m - 1) 12 < pn_ (fw_ ok (2 ^ m - 1)).toNat 12) then ((2 ^ m - 1 : Nat) : Int) else fw_ ok (2 ^ m - 1) := rfl
  rw [show 2 ^ m - 1 + 1 = 2 ^ m by omega] at e
  rw [e]
  rcases cl_R (ok := ok) h (2 ^ m - 1) (Nat.le_refl _) with ⟨e1, e2⟩ | ⟨e1, e2⟩
  · rw [if_pos ⟨al, Or.inl e1⟩, e2]
  · have p := pn_a h e2
    rw [if_neg (fun z => z.2.elim (fun y => by omega) (fun y => by rw [e1, Int.toNat_natCast] at y; omega)), e1]
-- THE REFERENCE
theorem bs_of {x i : Nat} (hx : x < 4096) (hi : i < 12) : bs (Int32.ofInt (x : Int)).toInt64 i = Nat.testBit x i := by
  have q : (Int32.ofInt (x : Int)).toInt = (x : Int) := by
    exact Int32.toInt_ofInt_of_le (by omega) (by omega)
  have t : (Int32.ofInt (x : Int)).toInt64.toBitVec.toInt = (x : Int) := by
    show (Int32.ofInt (x : Int)).toInt64.toInt = _
    rw [Int32.toInt_toInt64, q]
  have n : (Int32.ofInt (x : Int)).toInt64.toBitVec.toNat = x := by
    have b := (Int32.ofInt (x : Int)).toInt64.toBitVec.isLt
    rw [BitVec.toInt_eq_toNat_cond] at t
    split at t <;> omega
  show (Int32.ofInt (x : Int)).toInt64.toBitVec.toNat.testBit i = _
  rw [n]
section
variable {lv : List (Nat × Value)} {Q : Option Value → MH → Prop} {W : List (Nat × Nat)} {ρ : Nat → Nat} {m : Nat} {A : Nat → Nat} {h0 h : MH} {F : Nat → Int} {V : Nat → Nat → Int} {G : Nat → Nat → Int64}
theorem c_bitsV {x : Nat} {xx : Int32} (M : MX 49 W ρ m A h0 h F V G) (hx : xx.toInt = (x : Int)) (x1 : x < 4096) (g : ∀ z : Int32, z.toInt = (pn_ x 12 : Int) → Q (some (.int z)) h) : HJ 250 0 (lv_args 0 [.int xx]) [] h Q := by
  have pl : ∀ i, pn_ x i ≤ i := by
    intro i
    induction i with
    | zero => exact Nat.le_refl _
    | succ i ih =>
      have : x / 2 ^ i % 2 < 2 := Nat.mod_lt _ (by decide)
      rw [pn_]
      omega
  have loop : ∀ (d i : Nat) (lv : List (Nat × Value)) (xn xi : Int32), i + d = 12 → xn.toInt = (pn_ x i : Int) → xi.toInt = (i : Int) → m_lk lv 0 = some (.int xx) → m_lk lv 1 = some (.int xn) → m_lk lv 2 = some (.int xi) → HJ 250 4 lv [] h Q := by
    intro d
    induction d with
    | zero =>
      intro i lv xn xi hd qn qi e0 e1 e2
      have ei : i = 12 := by omega
      subst ei
      exact s_bo4 M e0 hx e1 qn e2 qi (fun _ => g xn qn) (fun c => by omega)
    | succ d ih =>
      intro i lv xn xi hd qn qi e0 e1 e2
      have l := pl i
      refine s_bo4 M e0 hx e1 qn e2 qi (fun c => by omega) (fun c => c_hasB M qi (by omega) (fun z qz => ?_))
      rw [bs_of x1 (by omega)] at qz
      have pe : pn_ x (i + 1) = pn_ x i + x / 2 ^ i % 2 := rfl
      have l2 : x / 2 ^ i % 2 < 2 := Nat.mod_lt _ (by decide)
      refine s_bo17 (z := z.toInt) M e0 hx e2 qi qn rfl (by omega) (by omega) (by omega) (by omega) (fun x2 q2 x4 q4 lv4 d0 d1 d2 c => ih (i + 1) lv4 x2 x4 (by omega) ?_ (by omega) d0 d1 d2) (fun x2 q2 x4 q4 lv4 d0 d1 d2 c => ih (i + 1) lv4 x2 x4 (by omega) ?_ (by omega) d0 d1 d2)
      · have nb : ¬ Nat.testBit x i = true := fun y => by
          rw [if_pos y] at qz
          omega
        have := mt tb_dg.mpr nb
        omega
      · have yb : Nat.testBit x i = true := by
          by_cases y : Nat.testBit x i = true
          · exact y
          · rw [if_neg y] at qz
            exact absurd qz c
        have := tb_dg.mp yb
        omega
  exact s_bo0 M rfl hx (fun x1 q1 x3 q3 lv4 e0 e1 e2 => loop 12 0 lv4 x1 x3 rfl q1 q3 e0 e1 e2)
theorem c_setV {s b : Nat} {x : Int64} {xb : Int32} (M : MX 49 W ρ m A h0 h F V G) (C : cho x s) (f47 : F 47 = (s : Int)) (s12 : s ≤ 12) (sv : ∀ k, k < s → V 48 k = ((nb_ x k 64 : Nat) : Int)) (hb : xb.toInt = (b : Int)) (b1 : b < 4096) (g : Q (some (.long (un_ x b s))) h) : HJ 251 0 (lv_args 0 [.ref m, .int xb]) [] h Q := by
  have loop : ∀ (d i : Nat) (lv : List (Nat × Value)) (xi : Int32), i + d = s → xi.toInt = (i : Int) → m_lk lv 0 = some (.ref m) → m_lk lv 1 = some (.int xb) → m_lk lv 2 = some (.long (un_ x b i)) → m_lk lv 4 = some (.int xi) → HJ 251 5 lv [] h Q := by
    intro d
    induction d with
    | zero =>
      intro i lv xi hd qi e0 e1 e2 e4
      have ei : i = s := by omega
      subst ei
      exact s_so5 M e0 e1 hb e2 e4 qi (fun _ _ _ => g) (fun _ _ c => by omega)
    | succ d ih =>
      intro i lv xi hd qi e0 e1 e2 e4
      refine s_so5 M e0 e1 hb e2 e4 qi (fun _ _ _ => by omega) (fun _ _ c => c_hasB M qi (by omega) (fun z qz => ?_))
      rw [bs_of b1 (by omega)] at qz
      refine s_so22 (z := z.toInt) M e0 e1 hb e4 qi rfl (by omega) (by omega) (fun x2 q2 lv2 d0 d1 d2 d4 c => ih (i + 1) lv2 x2 (by omega) (by omega) d0 d1 ?_ d4) (fun x2 q2 lv2 d0 d1 d2 d4 c _ _ => ih (i + 1) lv2 x2 (by omega) (by omega) d0 d1 ?_ d4)
      · have nb : ¬ Nat.testBit b i = true := fun y => by
          rw [if_pos y] at qz
          omega
        have e : un_ x b i ||| (Int64.ofNat (0 : Fin 2).val) = un_ x b i := by
          apply bs_ext
          intro w hw
          rw [bs_or, bs_0, Bool.or_false]
        rw [un_, if_neg nb, ← e]
        exact d2
      · have yb : Nat.testBit b i = true := by
          by_cases y : Nat.testBit b i = true
          · exact y
          · rw [if_neg y] at qz
            exact absurd qz c
        rw [Int.toNat_natCast, sv i (by omega)] at d2
        rw [un_, if_pos yb]
        exact d2
  exact s_so0 M rfl rfl hb (fun x2 q2 lv3 e0 e1 e2 e4 => loop s 0 lv3 x2 (by omega) q2 e0 e1 e2 e4)
-- the masks: those of the nodes that count
def ms_I (D : Int64 → Bool) (L : Nat → Int64) (k : Nat) (f : Nat) (G : Nat → Int64) : Prop := ∀ P : Int64 → Bool, ch_n P G f = ch_n (fun y => D y && P y) L k
theorem ms_0 {D : Int64 → Bool} {L G : Nat → Int64} : ms_I D L 0 0 G := fun _ => rfl
theorem ms_N {D : Int64 → Bool} {L G : Nat → Int64} {k f : Nat} (I : ms_I D L k f G) (h : ¬ D (L k) = true) : ms_I D L (k + 1) f G := fun P => by
  have e : D (L k) = false := by
    cases q : D (L k) with
    | false => rfl
    | true => exact absurd q h
  rw [ch_n, I P, e]
  rfl
theorem ms_Y {D : Int64 → Bool} {L G : Nat → Int64} {k f : Nat} (I : ms_I D L k f G) (h : D (L k) = true) : ms_I D L (k + 1) (f + 1) (m_u G f (L k)) := fun P => by
  have c : ch_n P (m_u G f (L k)) f = ch_n P G f := ch_C (fun i hi => by rw [m_uN _ _ _ _ (by omega)])
  rw [ch_n, ch_n, c, I P, m_uE, h, Bool.true_and]
theorem ms_f {D : Int64 → Bool} {L G : Nat → Int64} {k f : Nat} (I : ms_I D L k f G) : f = ch_n D L k := by
  have a := I (fun _ => true)
  have b : ∀ n, ch_n (fun _ => true) G n = n := by
    intro n
    induction n with
    | zero => rfl
    | succ n ih => rw [ch_n, ih, if_pos rfl]
  rw [b] at a
  rw [a]
  exact ch_C (fun i _ => by rw [Bool.and_true])
theorem ch_z {P : Int64 → Bool} {L : Nat → Int64} : ∀ n, ch_n P L n = 0 ↔ ∀ j, j < n → P (L j) = false
  | 0 => ⟨fun _ j hj => absurd hj (Nat.not_lt_zero j), fun _ => rfl⟩
  | n + 1 => by
    have ih := ch_z (P := P) (L := L) n
    rw [ch_n]
    constructor
    · intro h j hj
      have h1 : ch_n P L n = 0 := by omega
      by_cases e : j = n
      · subst e
        cases q : P (L j) with
        | false => rfl
        | true =>
          rw [q, if_pos rfl] at h
          omega
      · exact ih.mp h1 j (by omega)
    · intro h
      rw [ih.mpr (fun j hj => h j (by omega)), h n (by omega)]
      rfl
theorem z_hcE {L : Nat → Int64} {x : Int64} : ∀ n, z_hc L x n = ch_n (ch_any x) L n
  | 0 => rfl
  | n + 1 => by
    rw [z_hc, ch_n, z_hcE n]
    by_cases c : L n &&& x = 0
    · rw [if_pos c, if_neg (fun z => ch_anyT.mp z c)]
    · rw [if_neg c, if_pos (ch_anyT.mpr c)]
theorem z_cbE {x : Int64} : ∀ n, n ≤ 41 → z_cb x n = cb_n x n
  | 0, _ => rfl
  | n + 1, h => by
    have k := bs_nz (x := x) (v := n) (by omega)
    have cm : z_bit n &&& x = x &&& bt (n : Int) := by
      apply bs_ext
      intro w hw
      rw [bs_and, bs_and, Bool.and_comm]
      rfl
    rw [z_cb, cb_n, z_cbE n (by omega), cm]
    by_cases c : x &&& bt (n : Int) = 0
    · rw [if_pos c, k.mp c]
      rfl
    · rw [if_neg c, if_pos (by
        cases q : bs x n with
        | true => rfl
        | false => exact absurd (k.mpr q) c)]
theorem laid_C {Y : RYt} {F F' : Nat → Int} {V V' : Nat → Nat → Int} {G : Nat → Nat → Int64} (l : laid Y F V G) (fo : ∀ K, K ≠ 47 → F' K = F K) (vo : ∀ K, K ≠ 48 → V' K = V K) : laid Y F' V' G := by
  obtain ⟨o, y, f, gl⟩ := l
  have e : ∀ K, K ≠ 47 → m_u F' 19 0 K = m_u F 19 0 K := fun K hK => by
    by_cases c : K = 19
    · rw [c, m_uE, m_uE]
    · rw [m_uN _ _ _ _ c, m_uN _ _ _ _ c, fo K hK]
  refine ⟨o, ?_, f, ?_⟩
  · unfold ry_of rs_of at y ⊢
    rw [e 17 (by decide), e 18 (by decide), e 19 (by decide), e 35 (by decide), vo 20 (by decide), vo 21 (by decide), vo 22 (by decide), vo 23 (by decide), vo 36 (by decide), vo 37 (by decide), vo 38 (by decide), vo 39 (by decide), vo 40 (by decide)]
    exact y
  · unfold g_ly at gl ⊢
    rw [fo 17 (by decide), fo 35 (by decide), vo 22 (by decide), vo 23 (by decide), vo 24 (by decide), vo 36 (by decide), vo 39 (by decide), vo 40 (by decide)]
    exact gl
-- who holds what, and that not too many are held by few
theorem c_hold2 {Y : RYt} {x : Int64} (M : MX 49 W ρ m A h0 h F V G) (hw : d_sub g_hd W = true) (l : laid Y F V G) (g : ∀ (h' : MH) (F' : Nat → Int) (V' : Nat → Nat → Int) (G' : Nat → Nat → Int64), MX 49 W ρ m A h0 h' F' V' G' → z_hI F V F' V' → (∀ j, j < ps_n (ry_s Y) → G' 42 j = hd_Y Y j) → ch_n (ch_any x) (hd_Y Y) (ps_n (ry_s Y)) ≤ 63 * cb_n x (ry_v Y) → Q none h') : HJ 229 0 (lv_args 0 [.ref m]) [] h Q := by
  have lv := laid_v l
  obtain ⟨fn, n1⟩ := laid_n l
  obtain ⟨-, y, -, ⟨i1, i2, i3⟩, i4, i5, i6⟩ := id l
  refine HJ.both (c_holdT M hw l (Q := fun v h' => v = none ∧ ∃ F' V' G', MX 49 W ρ m A h0 h' F' V' G' ∧ z_hI F V F' V' ∧ ∀ j, j < ps_n (ry_s Y) → G' 42 j = hd_Y Y j) (fun h' F' V' G' M' I hL => ⟨rfl, F', V', G', M', I, hL⟩)) (c_hold M hw (by omega) (by omega) (by omega) (by omega) i1 i3 (Q := fun v h' => ∃ F' V' G', MX 49 W ρ m A h0 h' F' V' G' ∧ ∀ x, z_hc (G' 42) x (F 17).toNat ≤ 63 * z_cb x (F 35).toNat) (fun h' F' V' G' M' I hc => ⟨F', V', G', M', hc⟩)) (fun v h' ⟨ev, F', V', G', M', I, hL⟩ ⟨F2, V2, G2, M2, hc⟩ => ?_)
  subst ev
  refine g h' F' V' G' M' I hL ?_
  have eG : ∀ j, G2 42 j = G' 42 j := fun j =>
    ((M2.2.2 42 (by decide)).2 j).2.symm.trans ((M'.2.2 42 (by decide)).2 j).2
  have k := hc x
  rw [fn, Int.toNat_natCast, lv.1, Int.toNat_natCast, z_cbE _ lv.2.2, z_hcE] at k
  rw [← ch_C (p := ch_any x) (q := ch_any x) (L := G2 42) (L' := hd_Y Y) (fun i hi => by rw [eG i, hL i hi])]
  exact k
theorem c_coverV {f : Nat} {u : Int64} (M : MX 49 W ρ m A h0 h F V G) (f49 : F 49 = (f : Int)) (f1 : f ≤ 1024) (g : ∀ z : Int32, (z.toInt ≠ 0 ↔ ch_n (fun y => !ch_any u y) (G 50) f = 0) → Q (some (.int z)) h) : HJ 252 0 (lv_args 0 [.ref m, .long u]) [] h Q := by
  have loop : ∀ (d i : Nat) (lv : List (Nat × Value)) (xi : Int32), i + d = f → ch_n (fun y => !ch_any u y) (G 50) i = 0 → xi.toInt = (i : Int) → m_lk lv 0 = some (.ref m) → m_lk lv 1 = some (.long u) → m_lk lv 3 = some (.int xi) → HJ 252 2 lv [] h Q := by
    intro d
    induction d with
    | zero =>
      intro i lv xi hd I qi e0 e1 e3
      have ei : i = f := by omega
      subst ei
      exact s_cv2 M e0 e1 e3 qi (by omega) (by omega) (fun z q _ _ _ => g z ⟨fun _ => I, fun _ => by omega⟩) (fun x5 q5 lv5 _ _ _ _ _ c _ => by omega) (fun z _ _ _ c _ => by omega)
    | succ d ih =>
      intro i lv xi hd I qi e0 e1 e3
      refine s_cv2 M e0 e1 e3 qi (by omega) (by omega) (fun z _ _ _ c => by omega) (fun x5 q5 lv5 d0 d1 d3 _ _ _ c => ih (i + 1) lv5 x5 (by omega) ?_ (by omega) d0 d1 d3) (fun z q _ _ _ c => g z ⟨fun h => absurd q h, fun h => ?_⟩)
      · rw [Int.toNat_natCast] at c
        have a : ch_any u (G 50 i) = true := ch_anyT.mpr (fun z => c (lg_0.mpr z))
        rw [ch_n, I, a]
        rfl
      · rw [Int.toNat_natCast] at c
        have a := (ch_z f).mp h i (by omega)
        have a : ch_any u (G 50 i) = true := by
          cases q : ch_any u (G 50 i) with
          | true => rfl
          | false =>
            rw [q] at a
            cases a
        exact absurd (lg_0.mp c) (ch_anyT.mp a)
  exact s_cv0 M rfl rfl (fun x1 q1 lv2 e0 e1 e3 => loop f 0 lv2 x1 (by omega) rfl q1 e0 e1 e3)
theorem c_lostV {f : Nat} {u : Int64} (M : MX 49 W ρ m A h0 h F V G) (f49 : F 49 = (f : Int)) (f1 : f ≤ 1024) (g : ∀ z : Int32, z.toInt = (ch_n (fun y => decide (y &&& (u ^^^ (-1)) = Int64.ofNat (0 : Fin 2).val)) (G 50) f : Int) → Q (some (.int z)) h) : HJ 286 0 (lv_args 0 [.ref m, .long u]) [] h Q := by
  have loop : ∀ (d i : Nat) (lv : List (Nat × Value)) (xn xi : Int32), i + d = f → xn.toInt = (ch_n (fun y => decide (y &&& (u ^^^ (-1)) = Int64.ofNat (0 : Fin 2).val)) (G 50) i : Int) → xi.toInt = (i : Int) → m_lk lv 0 = some (.ref m) → m_lk lv 1 = some (.long u) → m_lk lv 3 = some (.int xn) → m_lk lv 4 = some (.int xi) → HJ 286 5 lv [] h Q := by
    intro d
    induction d with
    | zero =>
      intro i lv xn xi hd qn qi e0 e1 e3 e4
      have ei : i = f := by omega
      subst ei
      have l := ch_L (p := fun y => decide (y &&& (u ^^^ (-1)) = Int64.ofNat (0 : Fin 2).val)) (L := G 50) i
      exact s_lb5 M e0 e1 e3 qn e4 qi (by omega) (by omega) (by omega) (by omega) (fun _ _ _ => g xn qn) (fun x5 q5 x7 q7 lv7 _ _ _ _ _ _ c _ => by omega) (fun x5 q5 x7 q7 lv7 _ _ _ _ _ _ c _ => by omega)
    | succ d ih =>
      intro i lv xn xi hd qn qi e0 e1 e3 e4
      have l := ch_L (p := fun y => decide (y &&& (u ^^^ (-1)) = Int64.ofNat (0 : Fin 2).val)) (L := G 50) i
      refine s_lb5 M e0 e1 e3 qn e4 qi (by omega) (by omega) (by omega) (by omega) (fun _ _ c => by omega) (fun x5 q5 x7 q7 lv7 d0 d1 d3 d4 _ _ _ c => ih (i + 1) lv7 x5 x7 (by omega) ?_ (by omega) d0 d1 d3 d4) (fun x5 q5 x7 q7 lv7 d0 d1 d3 d4 _ _ _ c => ih (i + 1) lv7 x5 x7 (by omega) ?_ (by omega) d0 d1 d3 d4)
      · rw [Int.toNat_natCast] at c
        rw [ch_n, if_neg (fun z => c (lg_0.mpr (of_decide_eq_true z)))]
        omega
      · rw [Int.toNat_natCast] at c
        rw [ch_n, if_pos (decide_eq_true (lg_0.mp c))]
        omega
  exact s_lb0 M rfl rfl (fun x1 q1 x3 q3 lv4 e0 e1 e3 e4 => loop f 0 lv4 x1 x3 (by omega) q1 q3 e0 e1 e3 e4)
end
-- forget, both sides
def fg_D (x y : Int64) : Bool := decide (y &&& (x ^^^ (-1)) = Int64.ofNat (0 : Fin 2).val)
def fg_n (x : Int64) (m : Nat) (L : Nat → Int64) (n v : Nat) : Nat := ch_n (fun y => fg_D x y && fg_D (un_ x v m) y) L n
def fg_ok (x : Int64) (m : Nat) (L : Nat → Int64) (n : Nat) (w : Int) (v : Nat) : Bool := decide (w ≤ (fg_n x m L n v : Int))
theorem fg_E {x : Int64} {m : Nat} (C : cho x m) {v : Nat} (L : Nat → Int64) (n : Nat) : fg_n x m L n v = tn_ (fg_D x) x m L n m v := by
  refine ch_C (fun j _ => ?_)
  cases a : fg_D x (L j) with
  | false => rfl
  | true =>
    have k := R_in (b := v) C (of_decide_eq_true a)
    have b : fg_D (un_ x v m) (L j) = rl_ m m (pz_ x (L j) m) v := by
      apply Bool.eq_iff_iff.mpr
      rw [rl_m, ← k]
      exact decide_eq_true_iff
    rw [b]
def fg_in (Y : RYt) (row : Prop) (x : Int64) (w : Int) : Prop := row ∧ am_t x (ry_v Y) ∧ cb_n x 64 ≤ 12 ∧ 0 ≤ w
def fg_a (x : Int64) (b : Int) : Int64 := if b = -1 then -1 else un_ x b.toNat (cb_n x 64)
def fg_q (Y : RYt) (row : Prop) (x : Int64) (w : Int) (z : Int64) : Prop := (¬ fg_in Y row x w ∧ z = -1) ∨ (fg_in Y row x w ∧ z = fg_a x (fw_ (fg_ok x (cb_n x 64) (hd_Y Y) (ps_n (ry_s Y)) w) (2 ^ cb_n x 64)))
theorem fg_eq {Y : RYt} {row row' : Prop} {x y z : Int64} {w : Int} (er : row ↔ row') (A : fg_q Y row x w z) (B : fg_q Y row' x w y) : y = z := by
  have ee : fg_in Y row x w ↔ fg_in Y row' x w := and_congr_left' er
  rcases A with ⟨a1, a2⟩ | ⟨a1, a2⟩
  · rcases B with ⟨-, b2⟩ | ⟨b1, -⟩
    · rw [a2, b2]
    · exact absurd (ee.mpr b1) a1
  · rcases B with ⟨b1, -⟩ | ⟨-, b2⟩
    · exact absurd (ee.mp a1) b1
    · rw [a2, b2]
section
variable {lv : List (Nat × Value)} {Q : Option Value → MH → Prop} {h0 h : MH} {H : Nat → Nat → Int}
theorem r_gq0 {sh nd : Nat} {n : Int} (M : RX h0 h H) (e0 : m_lk lv 0 = some (.ref sh)) (e1 : m_lk lv 1 = some (.ref nd)) {lx2 : Int64} (e2 : m_lk lv 2 = some (.long lx2)) {lx4 : Int32} (e4 : m_lk lv 4 = some (.int lx4)) (lq4 : lx4.toInt = n)  (hs0 : 16 ≤ sh) (hk0 : (h_k h0 sh).1 = 6)
    (g0 : HJ 158 0 (lv_args 0 [.ref sh, .long lx2]) [] h (fun v h' => HJ 163 5 lv (v.toList ++ []) h' Q))
    : HJ 163 0 lv [] h Q := by
  refine hI_al (k := 0) rfl e0 rfl ?_ -- 0
  refine hI_ll (k := 2) rfl e2 rfl ?_ -- 1
  refine HJ.call (j := 158) (as := [.ref sh, .long lx2]) (rr := []) (pc' := 5) (m_cR (kc := 5) rfl rfl (by decide +kernel) rfl rfl rfl ⟨rfl, by decide +kernel, by decide +kernel⟩ (by decide) hs0 (by rw [M.2.1]; exact hk0)) (by show 3 ≤ m_lc 158; decide +kernel) ?_ -- 2
  exact g0 
theorem r_gq5 {sh nd : Nat} {n : Int} (M : RX h0 h H) (e0 : m_lk lv 0 = some (.ref sh)) (e1 : m_lk lv 1 = some (.ref nd)) {lx2 : Int64} (e2 : m_lk lv 2 = some (.long lx2)) {lx4 : Int32} (e4 : m_lk lv 4 = some (.int lx4)) (lq4 : lx4.toInt = n) 
    (g0 : ∀ x1 : Int32, x1.toInt = 0 → ∀ lv2 : List (Nat × Value), m_lk lv2 0 = some (.ref sh) → m_lk lv2 1 = some (.ref nd) → m_lk lv2 2 = some (.long lx2) → m_lk lv2 4 = some (.int lx4) → m_lk lv2 5 = some (.int x1) → HJ 163 8 lv2 [] h Q)
    : HJ 163 5 lv [] h Q := by
  refine hM_ic (n := 0) rfl (by decide) rfl (fun x1 q1 => ?_) -- 5
  refine hM_si2 (k := 5) rfl (by decide +kernel) rfl (fun lv2 e2_5 u2 => ?_) -- 6
  have e2_0 := u2 0 _ (by decide) (Or.inl rfl) e0
  have e2_1 := u2 1 _ (by decide) (Or.inl rfl) e1
  have e2_2 := u2 2 _ (by decide) (Or.inr (by decide)) e2
  have e2_4 := u2 4 _ (by decide) (Or.inl rfl) e4
  exact g0 x1 q1 lv2 e2_0 e2_1 e2_2 e2_4 e2_5
theorem r_gq8 {sh nd : Nat} {n i : Int} (M : RX h0 h H) (e0 : m_lk lv 0 = some (.ref sh)) (e1 : m_lk lv 1 = some (.ref nd)) {lx2 : Int64} (e2 : m_lk lv 2 = some (.long lx2)) {lx4 : Int32} (e4 : m_lk lv 4 = some (.int lx4)) (lq4 : lx4.toInt = n) {lx5 : Int32} (e5 : m_lk lv 5 = some (.int lx5)) (lq5 : lx5.toInt = i)  (hk0 : (h_k h0 nd).1 = 3) (hs0 : 16 ≤ nd)
    (g0 : i ≥ H nd 5 → HJ 163 59 lv [] h Q)
    (g1 : i < H nd 5 → HJ 99 0 (lv_args 0 [.ref nd, .int lx5]) [] h (fun v h' => HJ 163 23 lv (v.toList ++ []) h' Q))
    : HJ 163 8 lv [] h Q := by
  refine hI_il2 (k := 5) rfl e5 rfl ?_ -- 8
  refine hI_al (k := 1) rfl e1 rfl ?_ -- 10
  refine hR_gi (c := 2) (k := 5) M hk0 rfl rfl rfl rfl (fun x1 q1 => ?_) -- 11
  have gb1 : -2147483648 ≤ H nd 5 ∧ H nd 5 ≤ 2147483647 := by rw [← q1]; exact g_iT _
  refine hM_cge (off := 45) (t := 59) rfl lq5 q1 (by decide) rfl (fun c14 => ?_) (fun c14 => ?_) -- 14
  · exact g0 c14
  · refine hI_al (k := 1) rfl e1 rfl ?_ -- 17
    refine hI_il2 (k := 5) rfl e5 rfl ?_ -- 18
    refine HJ.call (j := 99) (as := [.ref nd, .int lx5]) (rr := []) (pc' := 23) (m_cR (kc := 2) rfl rfl (by decide +kernel) rfl rfl rfl ⟨rfl, by decide +kernel, by decide +kernel⟩ (by decide) hs0 (by rw [M.2.1]; exact hk0)) (by show 2 ≤ m_lc 99; decide +kernel) ?_ -- 20
    exact g1 c14
theorem r_gq23 {sh nd : Nat} {n i : Int} (M : RX h0 h H) (e0 : m_lk lv 0 = some (.ref sh)) (e1 : m_lk lv 1 = some (.ref nd)) {lx2 : Int64} (e2 : m_lk lv 2 = some (.long lx2)) {lx4 : Int32} (e4 : m_lk lv 4 = some (.int lx4)) (lq4 : lx4.toInt = n) {lx5 : Int32} (e5 : m_lk lv 5 = some (.int lx5)) (lq5 : lx5.toInt = i) {sx0 : Int64}  (hk0 : (h_k h0 sh).1 = 6) (hs0 : 16 ≤ sh)
    (g0 : ∀ lv1 : List (Nat × Value), m_lk lv1 0 = some (.ref sh) → m_lk lv1 1 = some (.ref nd) → m_lk lv1 2 = some (.long lx2) → m_lk lv1 4 = some (.int lx4) → m_lk lv1 5 = some (.int lx5) → (lg_cmp (sx0 &&& (lx2 ^^^ (-1))) (Int64.ofNat (0 : Fin 2).val)).toInt ≠ 0 → HJ 163 53 lv1 [] h Q)
    (g1 : ∀ lv1 : List (Nat × Value), m_lk lv1 0 = some (.ref sh) → m_lk lv1 1 = some (.ref nd) → m_lk lv1 2 = some (.long lx2) → m_lk lv1 4 = some (.int lx4) → m_lk lv1 5 = some (.int lx5) → (lg_cmp (sx0 &&& (lx2 ^^^ (-1))) (Int64.ofNat (0 : Fin 2).val)).toInt = 0 → HJ 159 0 (lv_args 0 [.ref sh, .long sx0]) [] h (fun v h' => HJ 163 48 lv1 (v.toList ++ [.ref (h_r h0 sh 0)]) h' Q))
    : HJ 163 23 lv [.long sx0] h Q := by
  refine hM_sl2 (k := 6) rfl (by decide +kernel) rfl (fun lv1 e1_6 u1 => ?_) -- 23
  have e1_0 := u1 0 _ (by decide) (by decide) (Or.inl rfl) e0
  have e1_1 := u1 1 _ (by decide) (by decide) (Or.inl rfl) e1
  have e1_2 := u1 2 _ (by decide) (by decide) (Or.inr (by decide)) e2
  have e1_4 := u1 4 _ (by decide) (by decide) (Or.inl rfl) e4
  have e1_5 := u1 5 _ (by decide) (by decide) (Or.inl rfl) e5
  refine hI_ll2 (k := 6) rfl e1_6 rfl ?_ -- 25
  refine hI_ll (k := 2) rfl e1_2 rfl ?_ -- 27
  refine hM_jc (x := (-1)) rfl rfl rfl ?_ -- 28
  refine hI_lxor rfl rfl ?_ -- 31
  refine hI_land rfl rfl ?_ -- 32
  refine hI_lc (n := 0) rfl rfl ?_ -- 33
  refine hM_lcmp rfl rfl (fun x2 q2 => ?_) -- 34
  refine hM_zne (off := 18) (t := 53) rfl q2 (by decide) rfl (fun c35 => ?_) (fun c35 => ?_) -- 35
  · exact g0 lv1 e1_0 e1_1 e1_2 e1_4 e1_5 c35
  · refine hI_al (k := 0) rfl e1_0 rfl ?_ -- 38
    refine hR_gr (c := 5) (k := 0) M hk0 rfl rfl rfl rfl ?_ -- 39
    refine hI_al (k := 0) rfl e1_0 rfl ?_ -- 42
    refine hI_ll2 (k := 6) rfl e1_6 rfl ?_ -- 43
    refine HJ.call (j := 159) (as := [.ref sh, .long sx0]) (rr := [.ref (h_r h0 sh 0)]) (pc' := 48) (m_cR (kc := 5) rfl rfl (by decide +kernel) rfl rfl rfl ⟨rfl, by decide +kernel, by decide +kernel⟩ (by decide) hs0 (by rw [M.2.1]; exact hk0)) (by show 3 ≤ m_lc 159; decide +kernel) ?_ -- 45
    exact g1 lv1 e1_0 e1_1 e1_2 e1_4 e1_5 c35
theorem r_gq48 {sh nd : Nat} {n i b T : Int} (M : RX h0 h H) (e0 : m_lk lv 0 = some (.ref sh)) (e1 : m_lk lv 1 = some (.ref nd)) {lx2 : Int64} (e2 : m_lk lv 2 = some (.long lx2)) {lx4 : Int32} (e4 : m_lk lv 4 = some (.int lx4)) (lq4 : lx4.toInt = n) {lx5 : Int32} (e5 : m_lk lv 5 = some (.int lx5)) (lq5 : lx5.toInt = i) {sx1 : Int32} (sq1 : sx1.toInt = b) (b0 : 0 ≤ b) (b1 : b < T) (i0 : 0 ≤ i) (i1 : i ≤ 15120) (u0 : 0 ≤ H (h_r h0 sh 0) b.toNat) (u1 : H (h_r h0 sh 0) b.toNat ≤ 1000000) (ha0 : (h_k h0 (h_r h0 sh 0)).1 = 20) (hl0 : T ≤ ((h_k h0 (h_r h0 sh 0)).2 : Int)) (hs0 : 16 ≤ h_r h0 sh 0)
    (g0 : ∀ h4 : MH, ∀ H4 : Nat → Nat → Int, H4 = m_u H (h_r h0 sh 0) (m_u (H (h_r h0 sh 0)) (b).toNat ((H (h_r h0 sh 0) (b).toNat) + 1)) → RX h0 h4 H4 → HJ 163 53 lv [] h4 Q)
    : HJ 163 48 lv [.int sx1, .ref (h_r h0 sh 0)] h Q := by
  refine hI_dup2 rfl rfl rfl rfl ?_ -- 48
  refine hR_ia M ha0 sq1 (by omega) (by omega) rfl rfl (fun x1 q1 => ?_) -- 49
  have gb1 : -2147483648 ≤ H (h_r h0 sh 0) (b).toNat ∧ H (h_r h0 sh 0) (b).toNat ≤ 2147483647 := by rw [← q1]; exact g_iT _
  refine hM_ic (n := 1) rfl (by decide) rfl (fun x2 q2 => ?_) -- 50
  refine hM_add rfl q1 q2 (by omega) (by omega) rfl (fun x3 q3 => ?_) -- 51
  refine hR_is M hs0 ha0 sq1 q3 (by omega) (by omega) rfl rfl (fun h4 H4 f4 M4 => ?_) -- 52
  exact g0 h4 H4 f4 M4
theorem r_gq53 {sh nd : Nat} {n i : Int} (M : RX h0 h H) (e0 : m_lk lv 0 = some (.ref sh)) (e1 : m_lk lv 1 = some (.ref nd)) {lx2 : Int64} (e2 : m_lk lv 2 = some (.long lx2)) {lx4 : Int32} (e4 : m_lk lv 4 = some (.int lx4)) (lq4 : lx4.toInt = n) {lx5 : Int32} (e5 : m_lk lv 5 = some (.int lx5)) (lq5 : lx5.toInt = i) (i0 : 0 ≤ i) (i1 : i ≤ 15120)
    (g0 : ∀ x1 : Int32, x1.toInt = i + 1 → ∀ lv1 : List (Nat × Value), m_lk lv1 0 = some (.ref sh) → m_lk lv1 1 = some (.ref nd) → m_lk lv1 2 = some (.long lx2) → m_lk lv1 4 = some (.int lx4) → m_lk lv1 5 = some (.int x1) → HJ 163 8 lv1 [] h Q)
    : HJ 163 53 lv [] h Q := by
  refine hM_inc (k := 5) (z := 1) rfl e5 lq5 (by decide) (by omega) (by omega) (by decide +kernel) rfl (fun lv1 x1 q1 e1_5 u1 => ?_) -- 53
  have e1_0 := u1 0 _ (by decide) (Or.inl rfl) e0
  have e1_1 := u1 1 _ (by decide) (Or.inl rfl) e1
  have e1_2 := u1 2 _ (by decide) (Or.inr (by decide)) e2
  have e1_4 := u1 4 _ (by decide) (Or.inl rfl) e4
  refine hI_go (pc' := 8) (off := (-48)) rfl (by decide) ?_ -- 56
  exact g0 x1 q1 lv1 e1_0 e1_1 e1_2 e1_4 e1_5
theorem r_gq59 {sh : Nat} {n : Int} (M : RX h0 h H) (e0 : m_lk lv 0 = some (.ref sh)) {lx4 : Int32} (e4 : m_lk lv 4 = some (.int lx4)) (lq4 : lx4.toInt = n)  (hs0 : 16 ≤ sh) (hk0 : (h_k h0 sh).1 = 6)
    (g0 : HJ 160 0 (lv_args 0 [.ref sh]) [] h (fun v h' => HJ 163 63 lv (v.toList ++ []) h' Q))
    : HJ 163 59 lv [] h Q := by
  refine hI_al (k := 0) rfl e0 rfl ?_ -- 59
  refine HJ.call (j := 160) (as := [.ref sh]) (rr := []) (pc' := 63) (m_cR (kc := 5) rfl rfl (by decide +kernel) rfl rfl rfl ⟨rfl, by decide +kernel, by decide +kernel⟩ (by decide) hs0 (by rw [M.2.1]; exact hk0)) (by show 1 ≤ m_lc 160; decide +kernel) ?_ -- 60
  exact g0 
theorem r_gq63 {sh : Nat} {n : Int} (M : RX h0 h H) (e0 : m_lk lv 0 = some (.ref sh)) {lx4 : Int32} (e4 : m_lk lv 4 = some (.int lx4)) (lq4 : lx4.toInt = n) 
    (g0 : ∀ x1 : Int32, x1.toInt = (-1) → ∀ x3 : Int32, x3.toInt = 0 → ∀ lv4 : List (Nat × Value), m_lk lv4 0 = some (.ref sh) → m_lk lv4 4 = some (.int lx4) → m_lk lv4 5 = some (.int x1) → m_lk lv4 6 = some (.int x3) → HJ 163 69 lv4 [] h Q)
    : HJ 163 63 lv [] h Q := by
  refine hM_ic (n := (-1)) rfl (by decide) rfl (fun x1 q1 => ?_) -- 63
  refine hM_si2 (k := 5) rfl (by decide +kernel) rfl (fun lv2 e2_5 u2 => ?_) -- 64
  have e2_0 := u2 0 _ (by decide) (Or.inl rfl) e0
  have e2_4 := u2 4 _ (by decide) (Or.inl rfl) e4
  refine hM_ic (n := 0) rfl (by decide) rfl (fun x3 q3 => ?_) -- 66
  refine hM_si2 (k := 6) rfl (by decide +kernel) rfl (fun lv4 e4_6 u4 => ?_) -- 67
  have e4_0 := u4 0 _ (by decide) (Or.inl rfl) e2_0
  have e4_4 := u4 4 _ (by decide) (Or.inl rfl) e2_4
  have e4_5 := u4 5 _ (by decide) (Or.inl rfl) e2_5
  exact g0 x1 q1 x3 q3 lv4 e4_0 e4_4 e4_5 e4_6
theorem r_gq69 {sh : Nat} {n b j T : Int} (M : RX h0 h H) (e0 : m_lk lv 0 = some (.ref sh)) {lx4 : Int32} (e4 : m_lk lv 4 = some (.int lx4)) (lq4 : lx4.toInt = n) {lx5 : Int32} (e5 : m_lk lv 5 = some (.int lx5)) (lq5 : lx5.toInt = b) {lx6 : Int32} (e6 : m_lk lv 6 = some (.int lx6)) (lq6 : lx6.toInt = j) (k0 : 0 ≤ H sh 3) (k1 : H sh 3 ≤ 12) (j0 : 0 ≤ j) (jT : j < (2 : Int) ^ (H sh 3).toNat → j < T) (hk0 : (h_k h0 sh).1 = 6) (ha0 : (h_k h0 (h_r h0 sh 0)).1 = 20) (hl0 : T ≤ ((h_k h0 (h_r h0 sh 0)).2 : Int))
    (g0 : j ≥ (2 : Int) ^ (H sh 3).toNat → HJ 163 121 lv [] h Q)
    (g1 : j < (2 : Int) ^ (H sh 3).toNat → H (h_r h0 sh 0) (j).toNat < n → HJ 163 115 lv [] h Q)
    (g2 : ∀ lv6 : List (Nat × Value), m_lk lv6 0 = some (.ref sh) → m_lk lv6 4 = some (.int lx4) → m_lk lv6 5 = some (.int lx6) → m_lk lv6 6 = some (.int lx6) → j < (2 : Int) ^ (H sh 3).toNat → H (h_r h0 sh 0) (j).toNat ≥ n → b = (-1) → HJ 163 115 lv6 [] h Q)
    (g3 : j < (2 : Int) ^ (H sh 3).toNat → H (h_r h0 sh 0) (j).toNat ≥ n → b ≠ (-1) → HJ 82 0 (lv_args 0 [.int lx6]) [] h (fun v h' => HJ 163 103 lv (v.toList ++ []) h' Q))
    : HJ 163 69 lv [] h Q := by
  refine hI_il2 (k := 6) rfl e6 rfl ?_ -- 69
  refine hM_ic (n := 1) rfl (by decide) rfl (fun x1 q1 => ?_) -- 71
  refine hI_al (k := 0) rfl e0 rfl ?_ -- 72
  refine hR_gi (c := 5) (k := 3) M hk0 rfl rfl rfl rfl (fun x2 q2 => ?_) -- 73
  have gb2 : -2147483648 ≤ H sh 3 ∧ H sh 3 ≤ 2147483647 := by rw [← q2]; exact g_iT _
  refine hM_shl rfl q1 q2 (by omega) (by omega) rfl (fun x3 q3 => ?_) -- 76
  refine hM_cge (off := 44) (t := 121) rfl lq6 q3 (by decide) rfl (fun c77 => ?_) (fun c77 => ?_) -- 77
  · exact g0 c77
  · refine hI_al (k := 0) rfl e0 rfl ?_ -- 80
    refine hR_gr (c := 5) (k := 0) M hk0 rfl rfl rfl rfl ?_ -- 81
    refine hI_il2 (k := 6) rfl e6 rfl ?_ -- 84
    refine hR_ia M ha0 lq6 (by omega) (by omega) rfl rfl (fun x4 q4 => ?_) -- 86
    have gb4 : -2147483648 ≤ H (h_r h0 sh 0) (j).toNat ∧ H (h_r h0 sh 0) (j).toNat ≤ 2147483647 := by rw [← q4]; exact g_iT _
    refine hI_il2 (k := 4) rfl e4 rfl ?_ -- 87
    refine hM_clt (off := 26) (t := 115) rfl q4 lq4 (by decide) rfl (fun c89 => ?_) (fun c89 => ?_) -- 89
    · exact g1 c77 c89
    · refine hI_il2 (k := 5) rfl e5 rfl ?_ -- 92
      refine hM_ic (n := (-1)) rfl (by decide) rfl (fun x5 q5 => ?_) -- 94
      refine hM_ceq (off := 16) (t := 111) rfl lq5 q5 (by decide) rfl (fun c95 => ?_) (fun c95 => ?_) -- 95
      · refine hI_il2 (k := 6) rfl e6 rfl ?_ -- 111
        refine hM_si2 (k := 5) rfl (by decide +kernel) rfl (fun lv6 e6_5 u6 => ?_) -- 113
        have e6_0 := u6 0 _ (by decide) (Or.inl rfl) e0
        have e6_4 := u6 4 _ (by decide) (Or.inl rfl) e4
        have e6_6 := u6 6 _ (by decide) (Or.inl rfl) e6
        exact g2 lv6 e6_0 e6_4 e6_5 e6_6 c77 c89 c95
      · refine hI_il2 (k := 6) rfl e6 rfl ?_ -- 98
        refine hM_is0 (as := [.int lx6]) (r := []) rfl rfl (by decide +kernel) rfl rfl rfl rfl rfl ?_ -- 100
        exact g3 c77 c89 c95
theorem r_gq103 {sh : Nat} {n b j y : Int} (M : RX h0 h H) (e0 : m_lk lv 0 = some (.ref sh)) {lx4 : Int32} (e4 : m_lk lv 4 = some (.int lx4)) (lq4 : lx4.toInt = n) {lx5 : Int32} (e5 : m_lk lv 5 = some (.int lx5)) (lq5 : lx5.toInt = b) {lx6 : Int32} (e6 : m_lk lv 6 = some (.int lx6)) (lq6 : lx6.toInt = j) {sx0 : Int32} (sq0 : sx0.toInt = y) 
    (g0 : HJ 82 0 (lv_args 0 [.int lx5]) [] h (fun v h' => HJ 163 108 lv (v.toList ++ [.int sx0]) h' Q))
    : HJ 163 103 lv [.int sx0] h Q := by
  refine hI_il2 (k := 5) rfl e5 rfl ?_ -- 103
  refine hM_is0 (as := [.int lx5]) (r := [.int sx0]) rfl rfl (by decide +kernel) rfl rfl rfl rfl rfl ?_ -- 105
  exact g0 
theorem r_gq108 {sh : Nat} {n b j y z : Int} (M : RX h0 h H) (e0 : m_lk lv 0 = some (.ref sh)) {lx4 : Int32} (e4 : m_lk lv 4 = some (.int lx4)) (lq4 : lx4.toInt = n) {lx5 : Int32} (e5 : m_lk lv 5 = some (.int lx5)) (lq5 : lx5.toInt = b) {lx6 : Int32} (e6 : m_lk lv 6 = some (.int lx6)) (lq6 : lx6.toInt = j) {sx0 : Int32} (sq0 : sx0.toInt = y) {sx1 : Int32} (sq1 : sx1.toInt = z) 
    (g0 : y ≥ z → HJ 163 115 lv [] h Q)
    (g1 : ∀ lv1 : List (Nat × Value), m_lk lv1 0 = some (.ref sh) → m_lk lv1 4 = some (.int lx4) → m_lk lv1 5 = some (.int lx6) → m_lk lv1 6 = some (.int lx6) → y < z → HJ 163 115 lv1 [] h Q)
    : HJ 163 108 lv [.int sx1, .int sx0] h Q := by
  refine hM_cge (off := 7) (t := 115) rfl sq0 sq1 (by decide) rfl (fun c108 => ?_) (fun c108 => ?_) -- 108
  · exact g0 c108
  · refine hI_il2 (k := 6) rfl e6 rfl ?_ -- 111
    refine hM_si2 (k := 5) rfl (by decide +kernel) rfl (fun lv1 e1_5 u1 => ?_) -- 113
    have e1_0 := u1 0 _ (by decide) (Or.inl rfl) e0
    have e1_4 := u1 4 _ (by decide) (Or.inl rfl) e4
    have e1_6 := u1 6 _ (by decide) (Or.inl rfl) e6
    exact g1 lv1 e1_0 e1_4 e1_5 e1_6 c108
theorem r_gq115 {sh : Nat} {n b j : Int} (M : RX h0 h H) (e0 : m_lk lv 0 = some (.ref sh)) {lx4 : Int32} (e4 : m_lk lv 4 = some (.int lx4)) (lq4 : lx4.toInt = n) {lx5 : Int32} (e5 : m_lk lv 5 = some (.int lx5)) (lq5 : lx5.toInt = b) {lx6 : Int32} (e6 : m_lk lv 6 = some (.int lx6)) (lq6 : lx6.toInt = j) (j0 : 0 ≤ j) (j1 : j ≤ 4096)
    (g0 : ∀ x1 : Int32, x1.toInt = j + 1 → ∀ lv1 : List (Nat × Value), m_lk lv1 0 = some (.ref sh) → m_lk lv1 4 = some (.int lx4) → m_lk lv1 5 = some (.int lx5) → m_lk lv1 6 = some (.int x1) → HJ 163 69 lv1 [] h Q)
    : HJ 163 115 lv [] h Q := by
  refine hM_inc (k := 6) (z := 1) rfl e6 lq6 (by decide) (by omega) (by omega) (by decide +kernel) rfl (fun lv1 x1 q1 e1_6 u1 => ?_) -- 115
  have e1_0 := u1 0 _ (by decide) (Or.inl rfl) e0
  have e1_4 := u1 4 _ (by decide) (Or.inl rfl) e4
  have e1_5 := u1 5 _ (by decide) (Or.inl rfl) e5
  refine hI_go (pc' := 69) (off := (-49)) rfl (by decide) ?_ -- 118
  exact g0 x1 q1 lv1 e1_0 e1_4 e1_5 e1_6
theorem r_gq121 {sh : Nat} {b : Int} (M : RX h0 h H) (e0 : m_lk lv 0 = some (.ref sh)) {lx5 : Int32} (e5 : m_lk lv 5 = some (.int lx5)) (lq5 : lx5.toInt = b)  (hs0 : 16 ≤ sh) (hk0 : (h_k h0 sh).1 = 6)
    (g0 : b ≠ (-1) → HJ 161 0 (lv_args 0 [.ref sh, .int lx5]) [] h (fun v h' => HJ 163 139 lv (v.toList ++ []) h' Q))
    (g1 : b = (-1) → Q (some (.long (-1))) h)
    : HJ 163 121 lv [] h Q := by
  refine hI_il2 (k := 5) rfl e5 rfl ?_ -- 121
  refine hM_ic (n := (-1)) rfl (by decide) rfl (fun x1 q1 => ?_) -- 123
  refine hM_cne (off := 9) (t := 133) rfl lq5 q1 (by decide) rfl (fun c124 => ?_) (fun c124 => ?_) -- 124
  · refine hI_al (k := 0) rfl e0 rfl ?_ -- 133
    refine hI_il2 (k := 5) rfl e5 rfl ?_ -- 134
    refine HJ.call (j := 161) (as := [.ref sh, .int lx5]) (rr := []) (pc' := 139) (m_cR (kc := 5) rfl rfl (by decide +kernel) rfl rfl rfl ⟨rfl, by decide +kernel, by decide +kernel⟩ (by decide) hs0 (by rw [M.2.1]; exact hk0)) (by show 2 ≤ m_lc 161; decide +kernel) ?_ -- 136
    exact g0 c124
  · refine hM_jc (x := (-1)) rfl rfl rfl ?_ -- 127
    refine hI_go (pc' := 139) (off := 9) rfl (by decide) ?_ -- 130
    refine hI_rl rfl rfl ?_
    exact g1 c124
theorem l_gq8 {sh nd m n : Nat} {x : Int64} {L : Nat → Int64} {xw : Int32} (O : tt_O h0 sh nd) (e5 : z_i h0 nd 5 = (n : Int)) (C : cho x m) (m12 : m ≤ 12) (n1 : n ≤ 15120) (g : ∀ (lv : List (Nat × Value)) (h : MH) (H : Nat → Nat → Int), RX h0 h H → tt_C h0 sh nd m n x L H → (∀ b, b < 2 ^ m → H (h_r h0 sh 0) b = (tn_ (fg_D x) x m L n 0 b : Int)) → m_lk lv 0 = some (.ref sh) → m_lk lv 4 = some (.int xw) → HJ 163 59 lv [] h Q) : ∀ (d i : Nat) (lv : List (Nat × Value)) (h : MH) (H : Nat → Nat → Int) (xi : Int32), i + d = n → RX h0 h H → tt_C h0 sh nd m n x L H → (∀ b, b < 2 ^ m → H (h_r h0 sh 0) b = (ch_n (fun y => fg_D x y && decide (pz_ x y m = b)) L i : Int)) → xi.toInt = (i : Int) → m_lk lv 0 = some (.ref sh) → m_lk lv 1 = some (.ref nd) → m_lk lv 2 = some (.long x) → m_lk lv 4 = some (.int xw) → m_lk lv 5 = some (.int xi) → HJ 163 8 lv [] h Q := by
  obtain ⟨⟨ns, nc⟩, nn0, nn1⟩ := tt_ne O
  obtain ⟨⟨ks, s16, sn⟩, ⟨kt, t16, tl, tz⟩, ⟨kc, c16, cl, lc⟩, on, ne1, ne2⟩ := id O
  intro d
  induction d with
  | zero =>
    intro i lv h H xi hd M I T qi a0 a1 a2 a4 a5
    have ei : i = n := by omega
    subst ei
    have I5 := I.2.2.1
    exact r_gq8 M a0 a1 a2 a4 rfl a5 qi on.1.1 on.1.2.1 (fun _ => g lv h H M I (fun b hb => by rw [tn_0 hb]; exact T b hb) a0 a4) (fun c => absurd c (by omega))
  | succ d ih =>
    intro i lv h H xi hd M I T qi a0 a1 a2 a4 a5
    have I5 := I.2.2.1
    have I4 := I.2.2.2.1
    refine r_gq8 M a0 a1 a2 a4 rfl a5 qi on.1.1 on.1.2.1 (fun c => absurd c (by omega)) (fun _ => ?_)
    refine k_hoR M on (by rw [I5, e5]) qi (by omega) ?_
    rw [I.2.2.2.2 i]
    show HJ 163 23 lv [.long (L i)] h Q
    refine r_gq23 M a0 a1 a2 a4 rfl a5 qi ks s16 (fun lv2 b0 b1 b2 b4 b5 c => ?_) (fun lv2 b0 b1 b2 b4 b5 c => ?_)
    · have no : fg_D x (L i) = false := decide_eq_false (fun z => c (lg_0.mpr z))
      refine r_gq53 M b0 b1 b2 b4 rfl b5 qi (by omega) (by omega) (fun x1 q1 lv1 c0 c1 c2 c4 c5 => ih (i + 1) lv1 h H x1 (by omega) M I (fun b hb => ?_) (by omega) c0 c1 c2 c4 c5)
      rw [ch_n, no, T b hb]
      rfl
    · have yes : fg_D x (L i) = true := decide_eq_true (lg_0.mp c)
      refine k_packed M O C m12 I (fun z qz => ?_)
      show HJ 163 48 lv2 [.int z, .ref (h_r h0 sh 0)] h Q
      have pl := pz_lt (x := x) (y := L i) m
      have Tp := T _ pl
      have cl := ch_L (p := fun y => fg_D x y && decide (pz_ x y m = pz_ x (L i) m)) (L := L) i
      have tn : ((pz_ x (L i) m : Nat) : Int).toNat = pz_ x (L i) m := Int.toNat_natCast _
      refine r_gq48 (T := ((2 ^ m : Nat) : Int)) M b0 b1 b2 b4 rfl b5 qi qz (by omega) (by omega) (by omega) (by omega) (by rw [tn]; omega) (by rw [tn]; omega) kt I4 t16 (fun h6 H6 f6 M6 => ?_)
      rw [tn] at f6
      have o6 : ∀ a, a ≠ h_r h0 sh 0 → H6 a = H a := fun a ha => by rw [f6, m_uN _ _ _ _ ha]
      refine r_gq53 M6 b0 b1 b2 b4 rfl b5 qi (by omega) (by omega) (fun x1 q1 lv1 c0 c1 c2 c4 c5 => ih (i + 1) lv1 h6 H6 x1 (by omega) M6 ⟨by rw [o6 _ (Ne.symm ns)]; exact I.1, fun t ht => by rw [o6 _ (Ne.symm ne1)]; exact I.2.1 t ht, by rw [o6 _ (Ne.symm nn0)]; exact I5, I4, I.2.2.2.2⟩ (fun b hb => ?_) (by omega) c0 c1 c2 c4 c5)
      rw [f6, m_uE, ch_n, yes, Bool.true_and]
      by_cases e : b = pz_ x (L i) m
      · subst e
        rw [m_uE, Tp, if_pos (decide_eq_true rfl)]
        omega
      · rw [m_uN _ _ _ _ e, T b hb, if_neg (fun z => e (of_decide_eq_true z).symm), Nat.add_zero]
theorem l_gq69 {sh nd m n : Nat} {x : Int64} {L : Nat → Int64} {xw : Int32} (M : RX h0 h H) (O : tt_O h0 sh nd) (C : cho x m) (m12 : m ≤ 12) (I : tt_C h0 sh nd m n x L H) (T : ∀ b, b < 2 ^ m → H (h_r h0 sh 0) b = (tn_ (fg_D x) x m L n m b : Int)) (g : Q (some (.long (fg_a x (fw_ (fg_ok x m L n xw.toInt) (2 ^ m))))) h) : ∀ (d j : Nat) (lv : List (Nat × Value)) (xb xj : Int32), j + d = 2 ^ m → xb.toInt = fw_ (fg_ok x m L n xw.toInt) j → xj.toInt = (j : Int) → m_lk lv 0 = some (.ref sh) → m_lk lv 4 = some (.int xw) → m_lk lv 5 = some (.int xb) → m_lk lv 6 = some (.int xj) → HJ 163 69 lv [] h Q := by
  obtain ⟨⟨ks, s16, sn⟩, ⟨kt, t16, tl, tz⟩, -⟩ := id O
  have I3 := I.1
  have I4 := I.2.2.2.1
  have pw := p12 (i := m) m12
  have e3 : (H sh 3).toNat = m := by omega
  intro d
  induction d with
  | zero =>
    intro j lv xb xj hd qb qj e0 e4 e5 e6
    have ej : j = 2 ^ m := by omega
    subst ej
    refine r_gq69 (T := ((2 ^ m : Nat) : Int)) M e0 e4 rfl e5 qb e6 qj (by omega) (by omega) (Int.natCast_nonneg _) (fun c => by rw [e3, pw.1] at c; exact c) ks kt I4 (fun _ => ?_) (fun c _ => by rw [e3, pw.1] at c; exact absurd c (Int.lt_irrefl _)) (fun _ _ _ _ _ c _ _ => by rw [e3, pw.1] at c; exact absurd c (Int.lt_irrefl _)) (fun c _ _ => by rw [e3, pw.1] at c; exact absurd c (Int.lt_irrefl _))
    refine r_gq121 M e0 e5 qb s16 ks (fun c => ?_) (fun c => ?_)
    · obtain ⟨u, R, u1, -⟩ := (fw_R (ok := fg_ok x m L n xw.toInt) (2 ^ m)).resolve_left c
      rw [R] at qb g
      refine k_unpk M O m12 I qb (by omega) ?_
      show HJ 163 139 lv [.long _] h Q
      refine hI_rl rfl rfl ?_
      unfold fg_a at g
      rw [if_neg (by omega), Int.toNat_natCast, ← C.1] at g
      exact g
    · unfold fg_a at g
      rw [if_pos c] at g
      exact g
  | succ d ih =>
    intro j lv xb xj hd qb qj e0 e4 e5 e6
    have jm : j < 2 ^ m := by omega
    have Tj := T j jm
    rw [← fg_E C] at Tj
    have tn : ((j : Nat) : Int).toNat = j := Int.toNat_natCast j
    have next : ∀ (lv3 : List (Nat × Value)) (xb3 : Int32), xb3.toInt = fw_ (fg_ok x m L n xw.toInt) (j + 1) → m_lk lv3 0 = some (.ref sh) → m_lk lv3 4 = some (.int xw) → m_lk lv3 5 = some (.int xb3) → m_lk lv3 6 = some (.int xj) → HJ 163 115 lv3 [] h Q := fun lv3 xb3 q3 a0 a4 a5 a6 =>
      r_gq115 M a0 a4 rfl a5 q3 a6 qj (by omega) (by omega) (fun x1 q1 lv1 b0 b4 b5 b6 => ih (j + 1) lv1 xb3 x1 (by omega) q3 (by omega) b0 b4 b5 b6)
    refine r_gq69 (T := ((2 ^ m : Nat) : Int)) M e0 e4 rfl e5 qb e6 qj (by omega) (by omega) (by omega) (fun c => by rw [e3, pw.1] at c; exact c) ks kt I4 (fun c => by rw [e3, pw.1] at c; omega) (fun _ c => ?_) (fun lv6 a0 a4 a5 a6 _ c c1 => ?_) (fun _ c c1 => ?_)
    · rw [tn, Tj] at c
      refine next lv xb ?_ e0 e4 e5 e6
      rw [fw_, if_neg (fun z => by have := of_decide_eq_true z.1; omega)]
      exact qb
    · rw [tn, Tj] at c
      refine next lv6 xj ?_ a0 a4 a5 a6
      rw [fw_, if_pos ⟨decide_eq_true c, Or.inl c1⟩]
      exact qj
    · rw [tn, Tj] at c
      obtain ⟨u, R, u1, -⟩ := (fw_R (ok := fg_ok x m L n xw.toInt) j).resolve_left c1
      have qu := qb.trans R
      refine k_bci qj (by omega) (fun y qy => ?_)
      show HJ 163 103 lv [.int y] h Q
      refine r_gq103 M e0 e4 rfl e5 qb e6 qj qy ?_
      refine k_bci qu (by omega) (fun z qz => ?_)
      show HJ 163 108 lv [.int z, .int y] h Q
      refine r_gq108 M e0 e4 rfl e5 qb e6 qj qy qz (fun c2 => next lv xb ?_ e0 e4 e5 e6) (fun lv1 a0 a4 a5 a6 c2 => next lv1 xj ?_ a0 a4 a5 a6)
      · rw [fw_, if_neg (fun w => w.2.elim c1 (fun w => by rw [R, Int.toNat_natCast] at w; omega))]
        exact qb
      · rw [fw_, if_pos ⟨decide_eq_true c, Or.inr (by rw [R, Int.toNat_natCast]; omega)⟩]
        exact qj
theorem k_give {sh nd m n : Nat} {x : Int64} {L : Nat → Int64} {xw : Int32} (O : tt_O h sh nd) (C : cho x m) (m12 : m ≤ 12) (en : z_i h nd 5 = (n : Int)) (n1 : n ≤ 15120) (eL : ∀ j, ho_L h nd j = L j) (g : ∀ h' : MH, Q (some (.long (fg_a x (fw_ (fg_ok x m L n xw.toInt) (2 ^ m))))) h') : HJ 163 0 (lv_args 0 [.ref sh, .ref nd, .long x, .int xw]) [] h Q := by
  have ks := O.1.1
  have s16 := O.1.2.1
  refine r_gq0 (RX.start h) rfl rfl rfl rfl rfl s16 ks ?_
  refine k_choose O C m12 en eL (fun h1 h2 H O1 M I Z e5 => ?_)
  show HJ 163 5 _ [] h2 Q
  refine r_gq5 M rfl rfl rfl rfl rfl (fun x1 q1 lv2 a0 a1 a2 a4 a5 => ?_)
  refine l_gq8 (xw := xw) O1 e5 C m12 n1 (fun lv3 h3 H3 M3 I3 T3 b0 b4 => ?_) n 0 lv2 h2 H x1 (by omega) M I (fun b hb => by rw [Z b hb]; rfl) q1 a0 a1 a2 a4 a5
  refine r_gq59 M3 b0 b4 rfl O1.1.2.1 O1.1.1 ?_
  refine k_sums (C := fg_D x) M3 O1 m12 n1 I3 T3 (fun h4 H4 M4 I4 T4 => ?_)
  show HJ 163 63 lv3 [] h4 Q
  refine r_gq63 M4 b0 b4 rfl (fun x5 q5 x6 q6 lv7 c0 c4 c5 c6 => ?_)
  exact l_gq69 M4 O1 C m12 I4 T4 (g h4) (2 ^ m) 0 lv7 x5 x6 (by omega) q5 q6 c0 c4 c5 c6
end
def fg_Z (y : Int64) : Bool := decide (y = Int64.ofNat (0 : Fin 2).val)
def fg_M (x y : Int64) : Bool := !fg_Z y && fg_D x y
theorem ch_le {p q : Int64 → Bool} {L : Nat → Int64} (h : ∀ y, p y = true → q y = true) : ∀ n, ch_n p L n ≤ ch_n q L n
  | 0 => Nat.le_refl _
  | n + 1 => by
    have ih := ch_le (L := L) h n
    rw [ch_n, ch_n]
    by_cases c : p (L n) = true
    · rw [if_pos c, if_pos (h _ c)]
      omega
    · rw [if_neg c]
      omega
theorem fg_MA {x y : Int64} (h : fg_M x y = true) : ch_any x y = true := by
  unfold fg_M fg_Z fg_D at h
  rw [Bool.and_eq_true, Bool.not_eq_true', decide_eq_false_iff_not, decide_eq_true_iff] at h
  exact ch_anyT.mpr (z_not h.1 h.2)
theorem fg_S {x u : Int64} {L : Nat → Int64} : ∀ n, ch_n fg_Z L n + ch_n (fun y => fg_M x y && fg_D u y) L n = ch_n (fun y => fg_D x y && fg_D u y) L n
  | 0 => rfl
  | n + 1 => by
    have ih := fg_S (x := x) (u := u) (L := L) n
    rw [ch_n, ch_n, ch_n]
    by_cases c : L n = Int64.ofNat (0 : Fin 2).val
    · have z : fg_Z (L n) = true := decide_eq_true c
      have d : ∀ v : Int64, fg_D v (L n) = true := fun v => decide_eq_true (by
        rw [c]
        apply bs_ext
        intro w hw
        rw [bs_and, bs_0]
        rfl)
      unfold fg_M
      rw [z, d x, d u]
      simp only [Bool.not_true, Bool.false_and, Bool.true_and, if_true]
      show _ + 1 + (_ + 0) = _ + 1
      unfold fg_M at ih
      omega
    · have z : fg_Z (L n) = false := decide_eq_false c
      unfold fg_M
      rw [z]
      simp only [Bool.not_false, Bool.true_and]
      unfold fg_M at ih
      show _ + 0 + (_ + _) = _ + _
      omega
section
variable {lv : List (Nat × Value)} {Q : Option Value → MH → Prop} {W : List (Nat × Nat)} {ρ : Nat → Nat} {m : Nat} {A : Nat → Nat} {h0 h : MH} {F : Nat → Int} {V : Nat → Nat → Int} {G : Nat → Nat → Int64}
theorem s_fgx178 {w u b i z : Int} (M : MX 49 W ρ m A h0 h F V G) (e0 : m_lk lv 0 = some (.ref m)) {lx4 : Int32} (e4 : m_lk lv 4 = some (.int lx4)) (lq4 : lx4.toInt = w) {lx5 : Int32} (e5 : m_lk lv 5 = some (.int lx5)) (lq5 : lx5.toInt = u) {lx6 : Int32} (e6 : m_lk lv 6 = some (.int lx6)) (lq6 : lx6.toInt = b) {lx7 : Int32} (e7 : m_lk lv 7 = some (.int lx7)) (lq7 : lx7.toInt = i) {sx0 : Int32} (sq0 : sx0.toInt = u) {sx1 : Int32} (sq1 : sx1.toInt = z) (u0 : 0 ≤ u) (u1 : u ≤ 16000) (z0 : 0 ≤ z) (z1 : z ≤ 16000)
    (g0 : ∀ lv2 : List (Nat × Value), m_lk lv2 0 = some (.ref m) → m_lk lv2 4 = some (.int lx4) → m_lk lv2 5 = some (.int lx5) → m_lk lv2 6 = some (.int lx6) → m_lk lv2 7 = some (.int lx7) → u + z < w → HJ 285 193 lv2 [] h Q)
    (g1 : ∀ lv3 : List (Nat × Value), m_lk lv3 0 = some (.ref m) → m_lk lv3 4 = some (.int lx4) → m_lk lv3 5 = some (.int lx5) → m_lk lv3 6 = some (.int lx7) → m_lk lv3 7 = some (.int lx7) → u + z ≥ w → HJ 285 193 lv3 [] h Q)
    : HJ 285 178 lv [.int sx1, .int sx0] h Q := by
  refine hM_add rfl sq0 sq1 (by omega) (by omega) rfl (fun x1 q1 => ?_) -- 178
  refine hI_il2 (k := 4) rfl e4 rfl ?_ -- 179
  refine hM_clt (off := 8) (t := 189) rfl q1 lq4 (by decide) rfl (fun c181 => ?_) (fun c181 => ?_) -- 181
  · refine hI_il2 (k := 6) rfl e6 rfl ?_ -- 189
    refine hM_si2 (k := 6) rfl (by decide +kernel) rfl (fun lv2 e2_6 u2 => ?_) -- 191
    have e2_0 := u2 0 _ (by decide) (Or.inl rfl) e0
    have e2_4 := u2 4 _ (by decide) (Or.inl rfl) e4
    have e2_5 := u2 5 _ (by decide) (Or.inl rfl) e5
    have e2_7 := u2 7 _ (by decide) (Or.inl rfl) e7
    exact g0 lv2 e2_0 e2_4 e2_5 e2_6 e2_7 c181
  · refine hI_il2 (k := 7) rfl e7 rfl ?_ -- 184
    refine hI_go (pc' := 191) (off := 5) rfl (by decide) ?_ -- 186
    refine hM_si2 (k := 6) rfl (by decide +kernel) rfl (fun lv3 e3_6 u3 => ?_) -- 191
    have e3_0 := u3 0 _ (by decide) (Or.inl rfl) e0
    have e3_4 := u3 4 _ (by decide) (Or.inl rfl) e4
    have e3_5 := u3 5 _ (by decide) (Or.inl rfl) e5
    have e3_7 := u3 7 _ (by decide) (Or.inl rfl) e7
    exact g1 lv3 e3_0 e3_4 e3_5 e3_6 e3_7 c181
theorem l_fgV53 {s n : Nat} {x : Int64} {L : Nat → Int64} {w : Int} {xw : Int32} (hw : d_sub [(82, 1001), (49, 49)] W = true) (qw : xw.toInt = w) (n1 : n ≤ 15120) (few : ch_n (ch_any x) L n ≤ 756) (g : ∀ (lv : List (Nat × Value)) (h : MH) (F : Nat → Int) (G : Nat → Nat → Int64) (f : Nat) (xu xb xi : Int32), MX 49 W ρ m A h0 h F V G → F 47 = (s : Int) → F 49 = (f : Int) → ms_I (fg_M x) L n f (G 50) → xu.toInt = (ch_n fg_Z L n : Int) → xb.toInt = -1 → xi.toInt = 0 → m_lk lv 0 = some (.ref m) → m_lk lv 4 = some (.int xw) → m_lk lv 5 = some (.int xu) → m_lk lv 6 = some (.int xb) → m_lk lv 7 = some (.int xi) → HJ 285 136 lv [] h Q) : ∀ (d k f : Nat) (lv : List (Nat × Value)) (h : MH) (F : Nat → Int) (G : Nat → Nat → Int64) (xu xk : Int32), k + d = n → MX 49 W ρ m A h0 h F V G → F 17 = (n : Int) → F 47 = (s : Int) → F 49 = (f : Int) → (∀ j, j < n → G 42 j = L j) → ms_I (fg_M x) L k f (G 50) → xu.toInt = (ch_n fg_Z L k : Int) → xk.toInt = (k : Int) → m_lk lv 0 = some (.ref m) → m_lk lv 2 = some (.long x) → m_lk lv 4 = some (.int xw) → m_lk lv 5 = some (.int xu) → m_lk lv 6 = some (.int xk) → HJ 285 53 lv [] h Q := by
  have mono : ∀ d k, ch_n (ch_any x) L k ≤ ch_n (ch_any x) L (k + d) := by
    intro d k
    induction d with
    | zero => exact Nat.le_refl _
    | succ d ih => exact Nat.le_trans ih (Nat.le_add_right _ _)
  intro d
  induction d with
  | zero =>
    intro k f lv h F G xu xk hd M f17 f47 f49 hL I qu hk e0 e2 e4 e5 e6
    have kn : k = n := by omega
    subst kn
    have ff := ms_f I
    have fl := ch_le (L := L) (fun y => fg_MA (x := x) (y := y)) k
    have ul := ch_L (p := fg_Z) (L := L) k
    exact s_fg53 M e0 e2 e4 qw e5 qu e6 hk (by omega) (by omega) (by omega) (by omega) (by omega) hw (fun x2 q2 x4 q4 lv5 d0 d2 d4 d5 d6 d7 _ _ _ => g lv5 h F G f xu x2 x4 M f47 f49 I qu q2 q4 d0 d4 d5 d6 d7) (fun x10 q10 lv10 _ _ _ _ _ _ _ c _ _ => by omega) (fun h13 G13 f13 h17 F17 f17' x18 q18 lv18 M17 _ _ _ _ _ _ _ c _ _ _ _ => by omega) (fun x19 q19 x20 q20 lv20 _ _ _ _ _ _ _ c _ => by omega)
  | succ d ih =>
    intro k f lv h F G xu xk hd M f17 f47 f49 hL I qu hk e0 e2 e4 e5 e6
    have ff := ms_f I
    have fl := ch_le (L := L) (fun y => fg_MA (x := x) (y := y)) k
    have ul := ch_L (p := fg_Z) (L := L) k
    have mo := mono (n - k) k
    rw [show k + (n - k) = n by omega] at mo
    have zn : ∀ c : L k ≠ Int64.ofNat (0 : Fin 2).val, ch_n fg_Z L (k + 1) = ch_n fg_Z L k := fun c => by
      rw [ch_n, show fg_Z (L k) = false from decide_eq_false c, if_neg Bool.false_ne_true, Nat.add_zero]
    refine s_fg53 M e0 e2 e4 qw e5 qu e6 hk (by omega) (by omega) (by omega) (by omega) (by omega) hw (fun x2 q2 x4 q4 lv5 d0 d2 d4 d5 d6 d7 _ _ _ => by omega) (fun x10 q10 lv10 d0 d2 d4 d5 d6 _ _ _ c1 c2 => ?_) (fun h13 G13 f13 h17 F17 f17' x18 q18 lv18 M17 d0 d2 d4 d5 d6 _ _ _ c1 c2 _ _ => ?_) (fun x19 q19 x20 q20 lv20 d0 d2 d4 d5 d6 _ _ _ c1 => ?_)
    · rw [Int.toNat_natCast, hL k (by omega)] at c1 c2
      have c1 : L k ≠ Int64.ofNat (0 : Fin 2).val := fun z => c1 (lg_0.mpr z)
      refine ih (k + 1) f lv10 h F G xu x10 (by omega) M f17 f47 f49 hL (ms_N I (fun z => ?_)) (by rw [zn c1]; exact qu) (by omega) d0 d2 d4 d5 d6
      unfold fg_M at z
      rw [Bool.and_eq_true] at z
      exact c2 (lg_0.mpr (of_decide_eq_true z.2))
    · rw [Int.toNat_natCast, hL k (by omega)] at c1 c2
      have c1 : L k ≠ Int64.ofNat (0 : Fin 2).val := fun z => c1 (lg_0.mpr z)
      rw [Int.toNat_natCast, hL k (by omega), f49, Int.toNat_natCast] at f13
      have g42 : G13 42 = G 42 := by rw [f13, m_uN _ _ _ _ (by decide)]
      have g50 : G13 50 = m_u (G 50) f (L k) := by rw [f13, m_uE]
      refine ih (k + 1) (f + 1) lv18 h17 F17 G13 xu x18 (by omega) M17 (by rw [f17', m_uN _ _ _ _ (by decide), f17]) (by rw [f17', m_uN _ _ _ _ (by decide), f47]) (by rw [f17', m_uE, f49]; rfl) (fun j hj => by rw [g42]; exact hL j hj) ?_ (by rw [zn c1]; exact qu) (by omega) d0 d2 d4 d5 d6
      rw [g50]
      refine ms_Y I ?_
      have z : fg_Z (L k) = false := decide_eq_false c1
      have y : fg_D x (L k) = true := decide_eq_true (lg_0.mp c2)
      unfold fg_M
      rw [z, y]
      rfl
    · rw [Int.toNat_natCast, hL k (by omega)] at c1
      have z : fg_Z (L k) = true := decide_eq_true (lg_0.mp c1)
      refine ih (k + 1) f lv20 h F G x19 x20 (by omega) M f17 f47 f49 hL (ms_N I (fun w => ?_)) ?_ (by omega) d0 d2 d4 d5 d6
      · unfold fg_M at w
        rw [z] at w
        cases w
      · rw [ch_n, if_pos z]
        omega
theorem l_fgV136 {s n f : Nat} {x : Int64} {L : Nat → Int64} {w : Int} {xw xu : Int32} (M : MX 49 W ρ m A h0 h F V G) (qw : xw.toInt = w) (C : cho x s) (s12 : s ≤ 12) (n1 : n ≤ 15120) (f47 : F 47 = (s : Int)) (f49 : F 49 = (f : Int)) (f1 : f ≤ 1024) (sv : ∀ k, k < s → V 48 k = ((nb_ x k 64 : Nat) : Int)) (I : ms_I (fg_M x) L n f (G 50)) (qu : xu.toInt = (ch_n fg_Z L n : Int)) (g : Q (some (.long (fg_a x (fw_ (fg_ok x s L n w) (2 ^ s))))) h) : ∀ (d i : Nat) (lv : List (Nat × Value)) (xb xi : Int32), i + d = 2 ^ s → xb.toInt = fw_ (fg_ok x s L n w) i → xi.toInt = (i : Int) → m_lk lv 0 = some (.ref m) → m_lk lv 4 = some (.int xw) → m_lk lv 5 = some (.int xu) → m_lk lv 6 = some (.int xb) → m_lk lv 7 = some (.int xi) → HJ 285 136 lv [] h Q := by
  have p := p12 (i := s) s12
  have e47 : (F 47).toNat = s := by omega
  have ul := ch_L (p := fg_Z) (L := L) n
  intro d
  induction d with
  | zero =>
    intro i lv xb xi hd qb qi e0 e4 e5 e6 e7
    have ei : i = 2 ^ s := by omega
    subst ei
    refine s_fg136 M e0 e4 qw e5 rfl e6 qb e7 qi (by rw [e47, p.1]; exact Int.natCast_nonneg _) (by rw [e47, p.1]; exact Int.ofNat_le.mpr p.2) (fun _ _ _ => ?_) (fun _ _ c _ => by rw [e47, p.1] at c; exact absurd c (Int.lt_irrefl _)) (fun _ _ c _ => by rw [e47, p.1] at c; exact absurd c (Int.lt_irrefl _))
    refine s_fg199 M e0 e6 qb (fun c => ?_) (fun c => ?_)
    · obtain ⟨u, R, u1, -⟩ := (fw_R (ok := fg_ok x s L n w) (2 ^ s)).resolve_left c
      rw [R] at qb g
      unfold fg_a at g
      rw [if_neg (by omega), Int.toNat_natCast, ← C.1] at g
      refine c_setV M C f47 s12 sv qb (by omega) ?_
      show HJ 285 217 lv [.long (un_ x u s)] h Q
      exact s_fg217 M g
    · unfold fg_a at g
      rw [if_pos c] at g
      exact g
  | succ d ih =>
    intro i lv xb xi hd qb qi e0 e4 e5 e6 e7
    have R := fw_R (ok := fg_ok x s L n w) i
    have nx : ∀ (lv : List (Nat × Value)) (xb : Int32), xb.toInt = fw_ (fg_ok x s L n w) (i + 1) → m_lk lv 0 = some (.ref m) → m_lk lv 4 = some (.int xw) → m_lk lv 5 = some (.int xu) → m_lk lv 6 = some (.int xb) → m_lk lv 7 = some (.int xi) → HJ 285 193 lv [] h Q := fun lv xb qb e0 e4 e5 e6 e7 => s_fg193 M e0 e4 qw e5 rfl e6 rfl e7 qi (by omega) (by omega) (fun x1 q1 lv1 d0 d4 d5 d6 d7 => ih (i + 1) lv1 xb x1 (by omega) qb (by omega) d0 d4 d5 d6 d7)
    have cov : (fw_ (fg_ok x s L n w) i = -1 ∨ pn_ i 12 < pn_ (fw_ (fg_ok x s L n w) i).toNat 12) → HJ 251 0 (lv_args 0 [.ref m, .int xi]) [] h (fun v h' => HJ 285 175 lv (v.toList ++ [.ref m, .int xu]) h' Q) := fun c => by
      refine c_setV M C f47 s12 sv qi (by omega) ?_
      show HJ 285 175 lv [.long (un_ x i s), .ref m, .int xu] h Q
      refine s_fg175 M e0 e4 qw e5 qu e6 rfl e7 qi qu ?_
      refine c_lostV M f49 f1 (fun y hy => ?_)
      show HJ 285 178 lv [.int y, .int xu] h Q
      have yl := ch_L (p := fun y => decide (y &&& (un_ x i s ^^^ (-1)) = Int64.ofNat (0 : Fin 2).val)) (L := G 50) f
      have es : ch_n fg_Z L n + ch_n (fun y => decide (y &&& (un_ x i s ^^^ (-1)) = Int64.ofNat (0 : Fin 2).val)) (G 50) f = fg_n x s L n i := by
        rw [I]
        exact fg_S (x := x) (u := un_ x i s) (L := L) n
      refine s_fgx178 M e0 e4 qw e5 qu e6 rfl e7 qi qu hy (by omega) (by omega) (by omega) (by omega) (fun lv1 d0 d4 d5 d6 d7 z => nx lv1 xb ?_ d0 d4 d5 d6 d7) (fun lv2 d0 d4 d5 d6 d7 z => nx lv2 xi ?_ d0 d4 d5 d6 d7)
      · rw [fw_, if_neg (fun v => by have := of_decide_eq_true v.1; omega)]
        exact qb
      · rw [fw_, if_pos ⟨decide_eq_true (by omega), c⟩]
        exact qi
    refine s_fg136 M e0 e4 qw e5 rfl e6 qb e7 qi (by rw [e47, p.1]; omega) (by rw [e47, p.1]; omega) (fun _ _ c => by rw [e47, p.1] at c; omega) (fun _ _ _ c => cov (Or.inl c)) (fun _ _ _ c => ?_)
    obtain ⟨u, R, u1, -⟩ := R.resolve_left c
    have qv : xb.toInt = (u : Int) := qb.trans R
    refine c_bitsV M qi (by omega) (fun y qy => ?_)
    show HJ 285 158 lv [.int y] h Q
    refine s_fg158 M e0 e4 qw e5 rfl e6 rfl e7 qi qy ?_
    refine c_bitsV M qv (by omega) (fun z qz => ?_)
    show HJ 285 163 lv [.int z, .int y] h Q
    refine s_fg163 M e0 e4 qw e5 rfl e6 rfl e7 qi qy qz (fun lv1 d0 d4 d5 d6 d7 c2 => nx lv1 xb ?_ d0 d4 d5 d6 d7) (fun c2 => cov (Or.inr (by rw [R, Int.toNat_natCast]; omega)))
    rw [fw_, if_neg (fun v => v.2.elim c (fun v => by rw [R, Int.toNat_natCast] at v; omega))]
    exact qb
theorem c_mforget {Y : RYt} {r w : Int} {x : Int64} {xr xw : Int32} (M : MX 49 W ρ m A h0 h F V G) (hw : d_sub g_cvr W = true) (qr : xr.toInt = r) (qw : xw.toInt = w) (rw_ : p_rw (V 6)) (ok : lay_ok (V 5 0) (V 6) r Y) (g : ∀ (z : Int64) (h' : MH) (F' : Nat → Int) (V' : Nat → Nat → Int) (G' : Nat → Nat → Int64), MX 49 W ρ m A h0 h' F' V' G' → fg_q Y (0 ≤ r ∧ r < V 5 0) x w z → Q (some (.long z)) h') : HJ 285 0 (lv_args 0 [.ref m, .int xr, .long x, .int xw]) [] h Q := by
  have w0 : d_sub [(49, 0)] W = true := d_subm hw (by decide +kernel)
  have w1 : d_sub g_la W = true := d_subm hw (by decide +kernel)
  have w2 : d_sub g_lsW W = true := d_subm hw (by decide +kernel)
  have w3 : d_sub g_hd W = true := d_subm hw (by decide +kernel)
  have w4 : d_sub [(82, 1001), (49, 49)] W = true := d_subm hw (by decide +kernel)
  have w5 : d_sub [(49, 49)] W = true := d_subm hw (by decide +kernel)
  refine s_fg0 M rfl rfl qr rfl rfl qw w0 (fun h2 F2 f2 M2 => ?_)
  refine c_layY M2 rfl rfl w1 qr rw_ ok (fun z h3 F3 V3 G3 M3 hx => ?_)
  show HJ 285 10 _ [.int z] h3 Q
  refine s_fg10 (z := z.toInt) M3 rfl rfl qr rfl rfl qw rfl (fun c => ?_) (fun c10 => ?_)
  · rcases hx with hx | hx
    · exact g _ h3 F3 V3 G3 M3 (Or.inl ⟨fun a => hx.2 a.1, rfl⟩)
    · omega
  obtain ⟨-, rr, l⟩ := hx.resolve_left (fun y => c10 y.1)
  have lv := laid_v l
  obtain ⟨fn, n1⟩ := laid_n l
  have v41 := lv.2.2
  refine c_areT M3 lv.1 v41 (fun z2 hz2 => ?_)
  show HJ 285 18 _ [.int z2] h3 Q
  refine s_fg18 (z := z2.toInt) M3 rfl rfl qr rfl rfl qw rfl (fun c => ?_) (fun c18 => ?_)
  · rcases hz2 with hz2 | hz2
    · omega
    · exact g _ h3 F3 V3 G3 M3 (Or.inl ⟨fun a => hz2.1 a.2.1, rfl⟩)
  have am : am_t x (ry_v Y) := by
    rcases hz2 with hz2 | hz2
    · exact hz2.1
    · exact absurd hz2.2 c18
  have e64 := am_64 am v41
  refine c_listV M3 w2 lv.1 v41 (fun z3 h4 F4 V4 M4 fo vo hz3 => ?_)
  show HJ 285 26 _ [.int z3] h4 Q
  refine s_fg26 (z := z3.toInt) M4 rfl rfl qr rfl rfl qw rfl (fun c => ?_) (fun c26 cw => ?_) (fun _ cw => g _ h4 F4 V4 G3 M4 (Or.inl ⟨fun a => by have := a.2.2.2; omega, rfl⟩))
  · rcases hz3 with hz3 | hz3
    · omega
    · exact g _ h4 F4 V4 G3 M4 (Or.inl ⟨fun a => by have := a.2.2.1; omega, rfl⟩)
  · obtain ⟨-, f47, sv⟩ := hz3.resolve_right (fun y => c26 y.1)
    rw [← e64] at f47 sv
    have b47 := M4.fi (by decide) (k := 47) (lo := 0) (hi := 12) rfl rfl rfl
    have f17 := fo 17 (by decide)
    have l4 : laid Y F4 V4 G3 := laid_C l fo vo
    refine c_hold2 (x := x) M4 w3 l4 (fun h5 F5 V5 G5 M5 I5 hL few => ?_)
    show HJ 285 42 _ [] h5 Q
    have C : cho x (cb_n x 64) := ⟨rfl, fun w h1 h2 => am w (by omega) h2⟩
    refine s_fg42 M5 rfl rfl qr rfl rfl qw w5 (fun x1 q1 h6 F6 f6 x5 q5 lv4 M6 e0 e2 e4 e5 e6 => ?_)
    refine l_fgV53 (s := cb_n x 64) (n := ps_n (ry_s Y)) (L := hd_Y Y) w4 qw n1 (by omega) (fun lv7 h7 F7 G7 f xu xb xi M7 k47 k49 I7 qu qb qi d0 d4 d5 d6 d7 => ?_) (ps_n (ry_s Y)) 0 0 lv4 h6 F6 G5 x1 x5 (by omega) M6 (by rw [f6, m_uN _ _ _ _ (by decide), I5.1 17 (by decide), f17, fn]) (by rw [f6, m_uN _ _ _ _ (by decide), I5.1 47 (by decide), f47]) (by rw [f6, m_uE]; rfl) hL ms_0 q1 q5 e0 e2 e4 e5 e6
    have ff := ms_f I7
    have fl := ch_le (L := hd_Y Y) (fun y => fg_MA (x := x) (y := y)) (ps_n (ry_s Y))
    exact l_fgV136 (n := ps_n (ry_s Y)) (L := hd_Y Y) M7 qw C (by omega) n1 k47 k49 (by omega) (fun k hk => by rw [I5.2 48 (Or.inr (by decide))]; exact sv k hk) I7 qu (g _ h7 F7 V5 G7 M7 (Or.inr ⟨⟨rr, am, by omega, cw⟩, rfl⟩)) (2 ^ cb_n x 64) 0 lv7 xb xi (by omega) qb qi d0 d4 d5 d6 d7
end
section
variable {Q : Option Value → MH → Prop} {ρ : Nat → Nat} {h : MH}
theorem tt_OT {p : Nat} (ht : TH c_sp ρ h) (h16 : ρ 16 = 6) (fp : ρ p = 29) (ok : nl_ok h (h_r h p 0)) : tt_O h (h_r h 16 7) (h_r h p 0) := by
  have fs := (th_rf ht (R := 6) (by decide) rfl h16 (k := 7) (R2 := 25) rfl (fun z => by cases z)).2
  have cs := t_spec ht (by decide) (rfl : c_sp[25]? = some _) fs
  have fa := (th_rf ht (R := 25) (by decide) rfl fs (k := 0) (R2 := 26) rfl (fun z => by cases z)).2
  have ca := t_spec ht (by decide) (rfl : c_sp[26]? = some _) fa
  have la : 1 ≤ (h_k h (h_r h (h_r h 16 7) 0)).2 ∧ (h_k h (h_r h (h_r h 16 7) 0)).2 ≤ 4096 := ca.2.1
  have fc := (th_rf ht (R := 25) (by decide) rfl fs (k := 1) (R2 := 27) rfl (fun z => by cases z)).2
  have cc := t_spec ht (by decide) (rfl : c_sp[27]? = some _) fc
  have lc : 12 ≤ (h_k h (h_r h (h_r h 16 7) 1)).2 ∧ (h_k h (h_r h (h_r h 16 7) 1)).2 ≤ 12 := cc.2.1
  have fn := (th_rf ht (R := 29) (by decide) rfl fp (k := 0) (R2 := 39) rfl (fun z => by cases z)).2
  exact ⟨⟨cs.1, cs.2.2.1 rfl, (ht.2 _ (by rw [fs]; decide)).1⟩, ⟨ca.1, ca.2.2.1 rfl, (ht.2 _ (by rw [fa]; decide)).1, by omega⟩, ⟨cc.1, cc.2.2.1 rfl, (ht.2 _ (by rw [fc]; decide)).1, by omega⟩, ok, ne_r fa fc (by decide), ne_r fs fn (by decide)⟩

theorem c_cforget {xr xw : Int32} {x : Int64} (ht : TH c_sp ρ h) (n1 : t_nd ρ h) (n15 : c_PT 15 ρ h) (g : ∀ (z : Int64) (h' : MH), fg_q (ac_Y h (q_ac h (h_r h 16 0) xr.toInt.toNat)) (0 ≤ xr.toInt ∧ xr.toInt < q_fd h (h_r h 16 0) 5) x xw.toInt z → Q (some (.long z)) h') : HJ 162 0 (lv_args 0 [.ref 16, .int xr, .long x, .int xw]) [] h Q := by
  have h16 := n15.1
  have no : ∀ lv, ¬ fg_in (ac_Y h (q_ac h (h_r h 16 0) xr.toInt.toNat)) (0 ≤ xr.toInt ∧ xr.toInt < q_fd h (h_r h 16 0) 5) x xw.toInt → HJ 162 35 lv [] h Q := fun lv c => by
    refine hM_jc (x := -1) rfl rfl rfl ?_
    exact hI_rl rfl rfl (g (-1) h (Or.inl ⟨c, rfl⟩))
  refine hI_al (k := 0) rfl rfl rfl ?_
  refine hI_il (k := 1) rfl rfl rfl ?_
  refine hM_iv (MX.start (W := []) ht h16) (by decide) rfl rfl (by decide) (as := [.int xr]) (r := []) rfl rfl (by decide +kernel) rfl (by decide +kernel) rfl rfl rfl rfl rfl ?_
  refine r_pastOf ht h16 (fun p hp => ?_)
  show HJ 162 5 _ [.ref p] h Q
  refine hI_as2 (k := 5) rfl (by decide +kernel) rfl ?_
  refine hI_al2 (k := 5) rfl rfl rfl ?_
  rcases hp with ⟨r0, r1, ep⟩ | ⟨hb, ep⟩
  · obtain ⟨r4, p0, bk, fp⟩ := pb_at ht n15 r0 r1
    have pl := (n15.2.1 xr.toInt.toNat r4 p0).1
    obtain ⟨kk, k40, ⟨sh, hs⟩, ⟨v1, s1, t0, t1⟩, -⟩ := ry_15 ht n15 xr.toInt.toNat (by omega)
    rw [← ep] at p0 bk fp pl
    have cp := t_spec ht (by decide) (rfl : c_sp[29]? = some _) fp
    have ok := pa_okT ht n1 fp pl
    have es : (h_i h p 11).toInt + 1 = (ry_v (ac_Y h (q_ac h (h_r h 16 0) xr.toInt.toNat)) : Int) := bk.1.1
    generalize ac_Y h (q_ac h (h_r h 16 0) xr.toInt.toNat) = Y at *
    refine hI_nl (t := 35) rfl (by decide) rfl (Or.inr (cp.2.2.1 rfl)) (fun z => absurd z p0) (fun _ => ?_)
    refine hI_al2 (k := 5) rfl rfl rfl ?_
    refine hI_ll (k := 2) (x := x) rfl rfl rfl ?_
    refine hM_iv (MX.start (W := []) ht fp) (by decide) rfl rfl (by decide) (as := [.long x]) (r := []) rfl rfl (by decide +kernel) rfl (by decide +kernel) rfl rfl rfl rfl rfl ?_
    refine k_haT ok.1.1 es bk.1.2.1 bk.1.2.2 (fun z hz => ?_)
    show HJ 162 18 _ [.int z] h Q
    refine hM_zeq (off := 17) (t := 35) rfl (zx := z.toInt) rfl (by decide) rfl (fun c => no _ (fun w => ?_)) (fun c => ?_)
    · rcases hz with hz | hz
      · omega
      · exact hz.1 w.2.1
    · have am : am_t x (ry_v Y) := by
        rcases hz with hz | hz
        · exact hz.1
        · exact absurd hz.2 c
      refine hI_ll (k := 2) (x := x) rfl rfl rfl ?_
      refine hM_is0 (as := [.long x]) (r := []) rfl rfl (by decide +kernel) rfl rfl rfl rfl rfl ?_
      refine k_lbc (fun xm qxm => ?_)
      show HJ 162 25 _ [.int xm] h Q
      refine hM_bp (n := 12) rfl (by decide) rfl (fun x1 q1 => ?_)
      refine hM_cgt (off := 8) (t := 35) rfl qxm q1 (by decide) rfl (fun c12 => no _ (fun w => by have := w.2.2.1; omega)) (fun c12 => ?_)
      refine hI_il2 (k := 4) rfl rfl rfl ?_
      refine hM_zge (off := 7) (t := 39) rfl (zx := xw.toInt) rfl (by decide) rfl (fun cw => ?_) (fun cw => no _ (fun w => by have := w.2.2.2; omega))
      have k16 : (h_k h 16).1 = 9 := (t_spec ht (by decide) (rfl : c_sp[6]? = some _) h16).1
      have fs := (th_rf ht (R := 6) (by decide) rfl h16 (k := 7) (R2 := 25) rfl (fun z => by cases z)).2
      obtain ⟨l, I⟩ := bk.2.2.2.2.2.1
      have en : z_i h (h_r h p 0) 5 = (ps_n (ry_s Y) : Int) := I.1
      have eL : ∀ j, j < ps_n (ry_s Y) → ho_L h (h_r h p 0) j = hd_Y Y j := fun j hj => bk.2.2.2.2.1.2 j hj
      have C : cho x (cb_n x 64) := ⟨rfl, fun w h1 h2 => am w (by have := bk.1.2.2; omega) h2⟩
      refine hI_al (k := 0) rfl rfl rfl ?_
      refine hI_gr (c := 8) (k := 7) rfl rfl rfl k16 rfl ?_
      refine hI_al2 (k := 5) rfl rfl rfl ?_
      refine hI_gr (c := 3) (k := 0) rfl rfl rfl cp.1 rfl ?_
      refine hI_ll (k := 2) (x := x) rfl rfl rfl ?_
      refine hI_il2 (k := 4) rfl rfl rfl ?_
      refine hM_iv (MX.start (W := []) ht fs) (by decide) rfl rfl (by decide) (as := [.ref (h_r h p 0), .long x, .int xw]) (r := []) rfl rfl (by decide +kernel) rfl (by decide +kernel) rfl rfl rfl rfl rfl ?_
      refine k_give (m := cb_n x 64) (n := ps_n (ry_s Y)) (L := ho_L h (h_r h p 0)) (tt_OT ht h16 fp ok.2.1) C (by omega) en (by omega) (fun _ => rfl) (fun h' => ?_)
      show HJ 162 54 _ [.long _] h' Q
      refine hI_rl rfl rfl (g _ h' (Or.inr ⟨⟨⟨r0, r1⟩, am, by omega, cw⟩, ?_⟩))
      have oe : fg_ok x (cb_n x 64) (ho_L h (h_r h p 0)) (ps_n (ry_s Y)) xw.toInt = fg_ok x (cb_n x 64) (hd_Y Y) (ps_n (ry_s Y)) xw.toInt := funext (fun v => by
        unfold fg_ok fg_n
        rw [ch_C (p := fun y => fg_D x y && fg_D (un_ x v (cb_n x 64)) y) (q := fun y => fg_D x y && fg_D (un_ x v (cb_n x 64)) y) (L := ho_L h (h_r h p 0)) (L' := hd_Y Y) (fun i hi => by rw [eL i hi])])
      rw [oe]
  · subst ep
    refine hI_nl (t := 35) rfl (by decide) rfl (Or.inl rfl) (fun _ => no _ (fun w => hb w.1)) (fun z => absurd rfl z)
end
def w_cv : List (Nat × Nat) := g_cvr ++ w_st
set_option maxRecDepth 100000 in
set_option maxHeartbeats 1000000 in
theorem case_33 : d_hand c_sp c_CC c_PT 0 c_m0 c_lcuts c_h33 := fun ρ K KA lv h σ α Q hC ht hw hT go => by
  obtain ⟨⟨e0, r0⟩, ⟨e1, r1⟩, ⟨e2, r2⟩, x, e3, qx, x0, x5, xl⟩ := lc_in hw
  have n1 := hT 1 (by decide)
  have n2 := hT 2 (by decide)
  have n7 := hT 7 (by decide)
  have n10 := hT 10 (by decide)
  have n12 := hT 12 (by decide)
  have n13 := hT 13 (by decide)
  have n14 := hT 14 (by decide)
  have n15 := hT 15 (by decide)
  have m16 : α 1 = 16 := n2.1.2.2.2.2.2.1 _ r1
  have h16 := n10.1
  have um := n10.2.1
  obtain ⟨rN, rI⟩ := n12.2.2 (α 2) r2
  have fN := nw_ob ht h16
  have fin : ∀ (ρ' : Nat → Nat) (h' : MH), FQ ρ ρ' c_m0.2.1 h h' → TH c_sp ρ' h' → c_PT 1 ρ' h' → c_PT 2 ρ' h' → c_PT 7 ρ' h' → c_PT 10 ρ' h' → c_PT 12 ρ' h' → c_PT 13 ρ' h' → c_PT 14 ρ' h' → c_PT 15 ρ' h' → HJ 0 2036 lv [] h' Q := fun ρ' h' f t a1 a2 a7 a10 a12 a13 a14 a15 => go c_hb hb_mem lv h' ρ' σ α f t (lc_out hw ht f) (by show 0 ≤ -3 * σ 3 + 0 + 2999; omega) (by show -3 * σ 3 + 0 + 2999 < -3 * σ 3 + 0 + 3000; omega) (t_7 a1 a2 a7 a10 a12 a13 a14 a15)
  show HJ 0 1903 lv [] h Q
  refine hI_al (k := 1) rfl e1 rfl ?_
  refine hL_arg (n := 1) rfl rfl rfl rfl rfl (by decide) (by decide) (by decide) e0 e3 ht r0 x0 (by first | exact xl | (rw [s2]; exact xl)) ?_
  refine hL_arg (n := 2) rfl rfl rfl rfl rfl (by decide) (by decide) (by decide) e0 e3 ht r0 x0 (by first | exact xl | (rw [s2]; exact xl)) ?_
  refine hL_hi rfl rfl rfl ?_
  refine hL_arg (n := 3) rfl rfl rfl rfl rfl (by decide) (by decide) (by decide) e0 e3 ht r0 x0 (by first | exact xl | (rw [s2]; exact xl)) ?_
  refine hL_lo rfl rfl rfl rfl ?_
  refine hL_arg (n := 4) rfl rfl rfl rfl rfl (by decide) (by decide) (by decide) e0 e3 ht r0 x0 (by first | exact xl | (rw [s2]; exact xl)) ?_
  generalize hk1 : h_i h (α 0) (x.toInt + 1).toNat = xk1
  generalize hk2 : h_i h (α 0) (x.toInt + 2).toNat = xk2
  generalize hk3 : h_i h (α 0) (x.toInt + 3).toNat = xk3
  generalize hk4 : h_i h (α 0) (x.toInt + 4).toNat = xk4
  refine hM_iv (MX.start (W := []) ht r1) (by decide) rfl rfl (by decide) (as := [.int xk1, .long (jz xk2 xk3), .int xk4]) (r := []) rfl rfl (by decide +kernel) rfl (by decide +kernel) rfl rfl rfl rfl rfl ?_
  rw [m16]
  refine HJ.both (c_cforget ht n1 n15 (Q := fun q h1 => ∃ z : Int64, q = some (.long z) ∧ fg_q (ac_Y h (q_ac h (h_r h 16 0) xk1.toInt.toNat)) (0 ≤ xk1.toInt ∧ xk1.toInt < q_fd h (h_r h 16 0) 5) (jz xk2 xk3) xk4.toInt z) (fun z h1 qz => ⟨z, rfl, qz⟩)) (c_k162 (Q := fun q h1 => ∃ ρ1, FQ ρ ρ1 c_m162.2.1 h h1 ∧ TH c_sp ρ1 h1 ∧ c_PT 1 ρ1 h1 ∧ c_PT 2 ρ1 h1) hC ht rfl rfl rfl rfl h16 n1 n2 (fun ρ1 h1 x f t b1 b2 => ⟨ρ1, f, t, b1, b2⟩)) (fun q h2 ⟨z, eq, qz⟩ ⟨ρ2, f, t2, b1, b2⟩ => ?_)
  subst eq
  show HJ 0 1937 lv [.long z] h2 Q
  have keep : ∀ t, c_PT t ρ h → d_no (c_dep t) c_m162.2.1 = true → c_PT t ρ2 h2 := fun t k d => c_PTx t _ _ _ h h2 ht f d k
  · skip
    obtain ⟨s1, s2, s3⟩ := sc_fr ht f r0 (by decide +kernel)
    have r2' : ρ2 (α 2) = 49 := (f.2.1 _ (by rw [r2]; decide)).trans r2
    have h16' : ρ2 16 = 6 := (f.2.1 16 (by rw [h16]; decide)).trans h16
    have um2 : t_um ρ2 := fun m m' e e' => um m m' (fq_m f ht (D := [(49, 1002)]) (by decide +kernel) (by decide) (List.mem_singleton.mpr rfl) e).1 (fq_m f ht (D := [(49, 1002)]) (by decide +kernel) (by decide) (List.mem_singleton.mpr rfl) e').1
    have fN2 : ρ2 (h_r h 16 0) = 7 := (f.2.1 _ (by rw [fN]; decide)).trans fN
    refine hI_al (k := 2) rfl e2 rfl ?_
    refine hL_arg (n := 1) rfl rfl rfl rfl rfl (by decide) (by decide) (by decide) e0 e3 t2 s1 x0 (by first | exact xl | (rw [s2]; exact xl)) ?_
    refine hL_arg (n := 2) rfl rfl rfl rfl rfl (by decide) (by decide) (by decide) e0 e3 t2 s1 x0 (by first | exact xl | (rw [s2]; exact xl)) ?_
    refine hL_hi rfl rfl rfl ?_
    refine hL_arg (n := 3) rfl rfl rfl rfl rfl (by decide) (by decide) (by decide) e0 e3 t2 s1 x0 (by first | exact xl | (rw [s2]; exact xl)) ?_
    refine hL_lo rfl rfl rfl rfl ?_
    refine hL_arg (n := 4) rfl rfl rfl rfl rfl (by decide) (by decide) (by decide) e0 e3 t2 s1 x0 (by first | exact xl | (rw [s2]; exact xl)) ?_
    rw [s3, s3, s3, s3, hk1, hk2, hk3, hk4]
    refine hM_iv (MX.start (W := []) t2 r2') (by decide) rfl rfl (by decide) (as := [.int xk1, .long (jz xk2 xk3), .int xk4]) (r := [.long z]) rfl rfl (by decide +kernel) rfl (by decide +kernel) rfl rfl rfl rfl rfl ?_
    have v2 := vm_fr ht f (by decide +kernel) r2
    have vq : ∀ K, (K = 5 ∨ K = 6) → ∀ j, (fun K j => (h_i h2 (h_r h2 (α 2) K) j).toInt) K j = q_vm h (α 2) K j := fun K hK j => congrFun (v2 K (by omega)) j
    have MM := MX.start (W := w_cv) t2 r2'
    obtain ⟨VV, hV⟩ : ∃ VV : Nat → Nat → Int, VV = fun K j => (h_i h2 (h_r h2 (α 2) K) j).toInt := ⟨_, rfl⟩
    rw [← hV] at MM vq
    have rw7 : p_rw (VV 6) := hv_7i MM (keep 7 n7 (by decide +kernel))
    have e5 : q_fd h (h_r h 16 0) 5 = VV 5 0 := rN.1.2.2.2.trans (vq 5 (Or.inl rfl) 0).symm
    have lk := ly_acG (r := xk1.toInt) ht n15 rN (vq 5 (Or.inl rfl) 0) (vq 6 (Or.inr rfl))
    refine c_mforget (Y := ac_Y h (q_ac h (h_r h 16 0) xk1.toInt.toNat)) MM (by decide +kernel) rfl rfl rw7 lk (fun y h3 F3 V3 G3 M3 qy => ?_)
    show HJ 0 1971 lv [.long y, .long z] h3 Q
    have qy : y = z := fg_eq (by rw [e5]) qz qy
    have f3 := M3.1.2.2.fq
    have t3 := M3.1.1
    have kp : ∀ t, c_PT t ρ h → d_no (c_dep t) c_m162.2.1 = true → d_no (c_dep t) w_cv = true → c_PT t ρ2 h3 := fun t k d d2 => c_PTx t _ _ _ h2 h3 t2 f3 d2 (keep t k d)
    · skip
      refine hM_lcmp rfl rfl (fun w qw => ?_)
      refine hM_zeq (off := 64) (t := 2036) rfl (zx := 0) (by rw [qw, qy]; exact lg_0.mpr rfl) (by decide) rfl (fun _ => ?_) (fun c => absurd rfl c)
      exact fin ρ2 h3 ((f.mono (by decide +kernel)).trans (f3.mono (by decide +kernel))) t3 (c_PTx 1 _ _ _ h2 h3 t2 f3 (by decide +kernel) b1) (c_PTx 2 _ _ _ h2 h3 t2 f3 (by decide +kernel) b2) (kp 7 n7 (by decide +kernel) (by decide +kernel)) (kp 10 n10 (by decide +kernel) (by decide +kernel)) (kp 12 n12 (by decide +kernel) (by decide +kernel)) (kp 13 n13 (by decide +kernel) (by decide +kernel)) (kp 14 n14 (by decide +kernel) (by decide +kernel)) (kp 15 n15 (by decide +kernel) (by decide +kernel))
