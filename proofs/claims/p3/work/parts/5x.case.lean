-- THE LAW'S CASES THAT ARE GONE ON BY HAND: feed, end, text, image, again
theorem t_Wn {W : List (Nat × Nat)} {R : Nat} (e : W.all (fun q => !(Nat.beq q.1 R)) = true) (j : Nat) : ¬ t_W W R j := fun z => by
  rcases z with z | z
  all_goals
    have z1 : (!(Nat.beq R R)) = true := List.all_eq_true.mp e _ z
    rw [Nat.beq_refl] at z1
    cases z1
theorem im_fr {ρ ρ' : Nat → Nat} {W : List (Nat × Nat)} {h h' : MH} (ht : TH c_sp ρ h) (f : FQ ρ ρ' W h h') (h16 : ρ 16 = 6) (hn : d_no [(6, 1), (8, 1001), (8, 1002)] W = true) (j : Nat) : r_im h' j = r_im h j := by
  have l16 := (ht.2 16 (by rw [h16]; decide)).1
  have eI : r_I h' = r_I h := (fq_f f hn (List.mem_of_getElem? (i := 0) rfl) (by decide) h16 l16).2
  have fI : ρ (r_I h) = 8 := (th_rf ht (R := 6) (by decide) rfl h16 (k := 1) rfl (fun z => by cases z)).2
  unfold r_im
  rw [eI]
  exact (fq_e j f hn (List.mem_of_getElem? (i := 1) rfl) (List.mem_of_getElem? (i := 2) rfl) fI (ht.2 _ (by rw [fI]; decide)).1).2
-- the law's own row: its elements stay
theorem sc_fr {ρ ρ' : Nat → Nat} {W : List (Nat × Nat)} {h h' : MH} {s : Nat} (ht : TH c_sp ρ h) (f : FQ ρ ρ' W h h') (hs : ρ s = 5) (hn : d_no [(5, 1001), (5, 1002)] W = true) : ρ' s = 5 ∧ h_k h' s = h_k h s ∧ ∀ j, h_i h' s j = h_i h s j := by
  have l := (ht.2 s (by rw [hs]; decide)).1
  exact ⟨(f.2.1 s (by rw [hs]; decide)).trans hs, (f.2.2.2 s l).1, fun j => (fq_e j f hn (List.mem_of_getElem? (i := 0) rfl) (List.mem_of_getElem? (i := 1) rfl) hs l).1⟩
-- a field's range
theorem fi_rg {ρ : Nat → Nat} {h : MH} {a R k : Nat} {rs : RS} {lo hi : Int} (ht : TH c_sp ρ h) (hR : R ≠ 0) (hs : c_sp[R]? = some rs) (hf : rs.2.2.2[k]? = some (.inl (lo, hi))) (ha : ρ a = R) (hn : rs.2.2.1 = false := by rfl) : lo ≤ (h_i h a k).toInt ∧ (h_i h a k).toInt ≤ hi := by
  have c := t_spec ht hR hs ha
  exact c.2.2.2 k (.inl (lo, hi)) (by unfold r_ft; rw [hn]; exact hf) (fun z => by rw [hn] at z; cases z)
-- the reference's row of what is used
theorem sz_r {ρ : Nat → Nat} {h : MH} {m : Nat} (ht : TH c_sp ρ h) (hm : ρ m = 49) : ρ (h_r h m 2) = 51 ∧ ∀ j, j < 4 → 0 ≤ (h_i h (h_r h m 2) j).toInt ∧ (h_i h (h_r h m 2) j).toInt ≤ 600 := by
  have r := (th_rf ht (R := 49) (by decide) rfl hm (k := 2) rfl (fun z => by cases z)).2
  have c := t_spec ht (by decide) (rfl : c_sp[51]? = some _) r
  have l : 4 ≤ (h_k h (h_r h m 2)).2 := c.2.1.1
  exact ⟨r, fun j hj => c.2.2.2 j (.inl (0, 600)) rfl (fun _ => by omega)⟩
theorem sz_f {ρ ρ' : Nat → Nat} {W : List (Nat × Nat)} {h h' : MH} {m : Nat} (ht : TH c_sp ρ h) (f : FQ ρ ρ' W h h') (hm : ρ m = 49) (hn : d_no [(49, 2)] W = true) (j : Nat) : v_sz h' m j = (h_i h' (h_r h m 2) j).toInt := by
  unfold v_sz
  rw [(fq_f f hn (List.mem_of_getElem? (i := 0) rfl) (by decide) hm (ht.2 m (by rw [hm]; decide)).1).2]
theorem nwr {ρ : Nat → Nat} {h : MH} (ht : TH c_sp ρ h) (h16 : ρ 16 = 6) : ρ (h_r h 16 0) = 7 ∧ 0 ≤ u_now h ∧ u_now h ≤ 600 := by
  have r := (th_rf ht (R := 6) (by decide) rfl h16 (k := 0) rfl (fun z => by cases z)).2
  exact ⟨r, fi_rg ht (by decide) rfl (k := 2) rfl r⟩
-- the token, out of its parts
theorem us_mk {ρ : Nat → Nat} {h : MH} {m : Nat} (h16 : ρ 16 = 6) (um : t_um ρ) (hm : ρ m = 49) (ne : im_ne h) (ok : us_ok h m) : c_PT 11 ρ h := ⟨h16, um, ne, fun m' e => by rw [um m' m e hm]; exact ok⟩
-- rows of acts, copied
theorem p_rwC {f t : Nat} {a b : Nat → Int} (c : cp_r 644 f t a b) (f3 : f ≤ 3) (h : p_rw a) : p_rw b := fun q hq => by
  by_cases e : 161 * q < 644 * t ∨ 644 * t + 644 ≤ 161 * q
  · rw [c.2 _ e]
    exact h q hq
  · have e1 : 161 * q = 644 * t + 161 * (q - 4 * t) := by omega
    rw [e1, c.1 _ (by omega), show 644 * f + 161 * (q - 4 * t) = 161 * (4 * f + (q - 4 * t)) by omega]
    exact h _ (by omega)
section
variable {Q : Option Value → MH → Prop} {ρ : Nat → Nat} {m : Nat} {lv : List (Nat × Value)} {h : MH}
-- what again writes ahead of its loop, and in all
def w_cpt : List (Nat × Nat) := c_m95.2.1
def w_ag : List (Nat × Nat) := w_cpt ++ c_m96r.2.1
theorem c_again {x1 : Int32} (hC : CCok c_CC ρ) (ht : TH c_sp ρ h) (hm : ρ m = 6) (n1 : c_PT 1 ρ h) (n2 : c_PT 2 ρ h) (e0 : m_lk lv 0 = some (.ref m)) (e1 : m_lk lv 1 = some (.int x1)) (g0 : ∀ x : Int32, x.toInt = 0 → (x1.toInt < 0 ∨ 3 ≤ x1.toInt) ∨ (0 ≤ x1.toInt ∧ x1.toInt < 3 ∧ r_im h x1.toInt.toNat = 0) → Q (some (.int x)) h) (g1 : ∀ (ρ' : Nat → Nat) (h' : MH) (x : Int32), x.toInt = 1 → 0 ≤ x1.toInt → x1.toInt < 3 → r_im h x1.toInt.toNat ≠ 0 → FQ ρ ρ' w_ag h h' → TH c_sp ρ' h' → c_PT 1 ρ' h' → c_PT 2 ρ' h' → u_now h' = u_im h x1.toInt.toNat → Q (some (.int x)) h') : HJ 96 0 lv [] h Q := by
  have m16 : m = 16 := n2.1.2.2.2.2.2.1 m hm
  subst m16
  have fI : ρ (r_I h) = 8 := (th_rf ht (R := 6) (by decide) rfl hm (k := 1) rfl (fun z => by cases z)).2
  have fN : ρ (h_r h 16 0) = 7 := (th_rf ht (R := 6) (by decide) rfl hm (k := 0) rfl (fun z => by cases z)).2
  have k16 : (h_k h 16).1 = 9 := (t_spec ht (by decide) (rfl : c_sp[6]? = some _) hm).1
  have cI := t_spec ht (by decide) (rfl : c_sp[8]? = some _) fI
  have kI : (h_k h (r_I h)).1 = 30 := cI.1
  have lI : 3 ≤ (h_k h (r_I h)).2 := cI.2.1.1
  have bad : (x1.toInt < 0 ∨ 3 ≤ x1.toInt) ∨ (0 ≤ x1.toInt ∧ x1.toInt < 3 ∧ r_im h x1.toInt.toNat = 0) → HJ 96 18 lv [] h Q := fun hb => hM_ic (n := 0) rfl (by decide) rfl (fun x q => hM_rb rfl rfl q (by omega) (by omega) (g0 x q hb))
  refine hI_il (k := 1) rfl e1 rfl ?_
  refine hM_zlt (off := 17) (t := 18) rfl rfl (by decide) rfl (fun c => bad (Or.inl (Or.inl c))) (fun cA => ?_)
  refine hI_il (k := 1) rfl e1 rfl ?_
  refine hM_ic (n := 3) rfl (by decide) rfl (fun x3 q3 => ?_)
  refine hM_cge (off := 12) (t := 18) rfl rfl q3 (by decide) rfl (fun c => bad (Or.inl (Or.inr c))) (fun cB => ?_)
  have el : t_rf ρ 97 false (h_r h (r_I h) x1.toInt.toNat) := cI.2.2.2 x1.toInt.toNat (.inr (.inr (97, false))) rfl (fun _ => by omega)
  have el16 : h_r h (r_I h) x1.toInt.toNat = 0 ∨ 16 ≤ h_r h (r_I h) x1.toInt.toNat := by
    rcases el with q | ⟨-, -, q⟩
    · exact Or.inl q.1
    · exact Or.inr ((t_spec ht (by decide) (rfl : c_sp[97]? = some _) q).2.2.1 rfl)
  refine hI_al (k := 0) rfl e0 rfl ?_
  refine hI_gr rfl rfl rfl k16 rfl ?_
  refine hI_il (k := 1) rfl e1 rfl ?_
  refine hI_aa (o := r_I h) rfl ⟨by rw [kI]; decide, by rw [kI]; decide⟩ cA (by omega) rfl ?_
  refine hI_nn (t := 20) rfl (by decide) rfl el16 (fun hne => ?_) (fun he => bad (Or.inr ⟨cA, cB, he⟩))
  have rI : ρ (h_r h (r_I h) x1.toInt.toNat) = 97 := by
    rcases el with q | ⟨-, -, q⟩
    · exact absurd q.1 hne
    · exact q
  refine hI_al (k := 0) rfl e0 rfl ?_
  refine hI_gr rfl rfl rfl k16 rfl ?_
  refine hI_al (k := 0) rfl e0 rfl ?_
  refine hI_gr rfl rfl rfl k16 rfl ?_
  refine hI_il (k := 1) rfl e1 rfl ?_
  refine hI_aa (o := r_I h) rfl ⟨by rw [kI]; decide, by rw [kI]; decide⟩ cA (by omega) rfl ?_
  refine hM_iv (MX.start (W := []) ht fN) (by decide) rfl rfl (by decide) (as := [.ref (h_r h (r_I h) x1.toInt.toNat)]) (r := []) rfl rfl (by decide +kernel) rfl (by decide +kernel) rfl rfl rfl rfl rfl ?_
  have bI := fi_rg ht (by decide) rfl (k := 2) rfl rI
  refine c_k95 hC ht rfl rfl fN rI bI (fun ρ2 h2 f2 t2 v1 v2 => ?_)
  · obtain ⟨er, fs⟩ := FS.ofFQ (by decide +kernel) f2
    subst er
    show HJ 96 33 lv [] h2 Q
    refine HJ.ofVa (K := (k_pins 2).map (le_ev (fun _ => x1.toInt))) (KA := (List.range 2).map (fun _ => 16)) c_v96r (hC.x f2) ⟨t2, fun _ => x1.toInt, fun _ => 16, fun q hq => ?_, fun e he => (by cases he), fun q hq => (by cases hq), rfl, rfl, fun q hq => ?_, trivial⟩ (fun t mt => ?_) (fun x h3 ρ3 f3 hP => ?_)
    · have hq : q = (1, ((0 : Int), (2 : Int))) := List.mem_singleton.mp hq
      subst hq
      exact ⟨cA, by show x1.toInt ≤ 2; omega⟩
    · have hq : q ∈ [((0 : Nat), (Sum.inr (Sum.inr (0, (6, true))) : AT)), (1, Sum.inl (le_s 1))] := hq
      rcases List.mem_cons.mp hq with e | hq
      · rw [e]
        exact ⟨.ref 16, e0, rfl, Or.inr ⟨by decide, by decide, (f2.2.1 16 (by rw [hm]; decide)).trans hm⟩⟩
      · rw [List.mem_singleton.mp hq]
        exact ⟨.int x1, e1, x1, rfl, (le_sE (fun _ => x1.toInt) 1).symm⟩
    · have mt : t ∈ [1, 2] := mt
      rcases List.mem_cons.mp mt with e | mt
      · rw [e]; exact c_PTx 1 _ _ _ h h2 ht f2 (by decide +kernel) n1
      · rw [List.mem_singleton.mp mt]; exact c_PTx 2 _ _ _ h h2 ht f2 (by decide +kernel) n2
    · obtain ⟨P, mP, tP, kP⟩ := hP
      have eP := List.mem_singleton.mp mP
      subst eP
      cases x with
      | none =>
        obtain ⟨-, σ9, α9, -, -, -, -, -, -, u7⟩ := tP
        exact u7.elim
      | some y =>
        have t3 := tP.1
        obtain ⟨-, σ9, α9, -, -, -, -, -, -, ⟨⟨z, e1, e2⟩, -⟩⟩ := tP
        subst e1
        have e2 : z.toInt = 0 + 1 := e2
        refine g1 ρ3 h3 z (by omega) cA cB hne ((f2.mono (by decide +kernel)).trans (f3.mono (by decide +kernel))) t3 (kP 1 (by decide)) (kP 2 (by decide)) ?_
        have h162 : ρ2 16 = 6 := (f2.2.1 16 (by rw [hm]; decide)).trans hm
        rw [(us_nw (D := [(6, 0), (7, 2)]) t2 f3 h162 (by decide +kernel) (by decide)).2 (by decide)]
        unfold u_now
        rw [(us_nw (D := [(6, 0)]) ht f2 hm (by decide +kernel) (by decide)).1]
        exact v1
-- the reference's copy, exactly
theorem c_ca {W : List (Nat × Nat)} {A : Nat → Nat} {V : Nat → Nat → Int} {G : Nat → Nat → Int64} {h0 : MH} (hw : d_sub w_cA W = true) : ca_ok W ρ m A h0 V G (fun a b _ V' => cp_all a.toNat b.toNat V V') := fun h F x1 x2 Q' M a0 a1 b0 b1 ne g => c_copyAll (f := x1.toInt.toNat) (t := x2.toInt.toNat) M hw (by omega) (by omega) (by omega) (by omega) (by omega) (fun h' V' M' c => g h' F V' G M' (c.2.2.2.2.2.2 67 (Or.inr (by decide))) c)
end
def c_hb : CT := (2035, (c_lS, ([1, 2, 7, 10, 11], ([(3, (-3))], 2999))))
def c_h0 : CT := (196, (c_lS, ([1, 2, 7, 10, 11], ([(3, (-3))], 3000))))
def c_h1 : CT := (259, (c_lS, ([1, 2, 7, 10, 11], ([(3, (-3))], 3000))))
def c_h2 : CT := (282, (c_lS, ([1, 2, 7, 10, 11], ([(3, (-3))], 3000))))
def c_h35 : CT := (1989, (c_lS, ([1, 2, 7, 10, 11], ([(3, (-3))], 3000))))
def c_h36 : CT := (2012, (c_lS, ([1, 2, 7, 10, 11], ([(3, (-3))], 3000))))
def hd_l (C : CT) : Bool := Nat.beq C.1 196 || Nat.beq C.1 259 || Nat.beq C.1 282 || Nat.beq C.1 1989 || Nat.beq C.1 2012
theorem hb_mem : c_hb ∈ c_lcuts := List.mem_of_getElem? (i := 38) rfl
def w_mg : List (Nat × Nat) := (49, 0) :: (96, 1001) :: w_cA
def w_m2 : List (Nat × Nat) := (49, 0) :: w_cA
theorem t_5 {ρ : Nat → Nat} {h : MH} (a1 : c_PT 1 ρ h) (a2 : c_PT 2 ρ h) (a7 : c_PT 7 ρ h) (a10 : c_PT 10 ρ h) (a11 : c_PT 11 ρ h) : ∀ t ∈ [1, 2, 7, 10, 11], c_PT t ρ h := fun t mt => by
  rcases List.mem_cons.mp mt with e | mt
  · rw [e]; exact a1
  · rcases List.mem_cons.mp mt with e | mt
    · rw [e]; exact a2
    · rcases List.mem_cons.mp mt with e | mt
      · rw [e]; exact a7
      · rcases List.mem_cons.mp mt with e | mt
        · rw [e]; exact a10
        · rw [List.mem_singleton.mp mt]; exact a11
set_option maxRecDepth 100000 in
theorem case_0 : d_hand c_sp c_CC c_PT 0 c_m0 c_lcuts c_h0 := fun ρ K KA lv h σ α Q hC ht hw hT go => by
  obtain ⟨⟨e0, r0⟩, ⟨e1, r1⟩, ⟨e2, r2⟩, x, e3, qx, x0, x5, xl⟩ := lc_in hw
  have n1 := hT 1 (by decide)
  have n2 := hT 2 (by decide)
  have n7 := hT 7 (by decide)
  have n10 := hT 10 (by decide)
  have n11 := hT 11 (by decide)
  have m16 : α 1 = 16 := n2.1.2.2.2.2.2.1 _ r1
  have h16 := n10.1
  obtain ⟨us1, us2⟩ := n11.2.2.2 (α 2) r2
  have fin : ∀ (ρ' : Nat → Nat) (h' : MH), FQ ρ ρ' c_m0.2.1 h h' → TH c_sp ρ' h' → c_PT 1 ρ' h' → c_PT 2 ρ' h' → c_PT 7 ρ' h' → c_PT 10 ρ' h' → c_PT 11 ρ' h' → HJ 0 2035 lv [] h' Q := fun ρ' h' f t a1 a2 a7 a10 a11 => go c_hb hb_mem lv h' ρ' σ α f t (lc_out hw ht f) (by show 0 ≤ -3 * σ 3 + 0 + 2999; omega) (by show -3 * σ 3 + 0 + 2999 < -3 * σ 3 + 0 + 3000; omega) (t_5 a1 a2 a7 a10 a11)
  show HJ 0 196 lv [] h Q
  refine hI_al (k := 1) rfl e1 rfl ?_
  refine hL_arg (n := 1) rfl rfl rfl rfl rfl (by decide) (by decide) (by decide) e0 e3 ht r0 x0 (by first | exact xl | (rw [s2]; exact xl)) ?_
  refine hL_arg (n := 2) rfl rfl rfl rfl rfl (by decide) (by decide) (by decide) e0 e3 ht r0 x0 (by first | exact xl | (rw [s2]; exact xl)) ?_
  refine hL_arg (n := 3) rfl rfl rfl rfl rfl (by decide) (by decide) (by decide) e0 e3 ht r0 x0 (by first | exact xl | (rw [s2]; exact xl)) ?_
  refine hL_arg (n := 4) rfl rfl rfl rfl rfl (by decide) (by decide) (by decide) e0 e3 ht r0 x0 (by first | exact xl | (rw [s2]; exact xl)) ?_
  refine hL_arg (n := 5) rfl rfl rfl rfl rfl (by decide) (by decide) (by decide) e0 e3 ht r0 x0 (by first | exact xl | (rw [s2]; exact xl)) ?_
  generalize hk1 : h_i h (α 0) (x.toInt + 1).toNat = xk1
  generalize hk2 : h_i h (α 0) (x.toInt + 2).toNat = xk2
  generalize hk3 : h_i h (α 0) (x.toInt + 3).toNat = xk3
  generalize hk4 : h_i h (α 0) (x.toInt + 4).toNat = xk4
  generalize hk5 : h_i h (α 0) (x.toInt + 5).toNat = xk5
  refine hM_iv (MX.start (W := []) ht r1) (by decide) rfl rfl (by decide) (as := [.int xk1, .int xk2, .int xk3, .int xk4, .int xk5]) (r := []) rfl rfl (by decide +kernel) rfl (by decide +kernel) rfl rfl rfl rfl rfl ?_
  rw [m16]
  have bN := nwr ht h16
  have snd : ∀ (ρ2 : Nat → Nat) (h2 : MH) (z : Int32), FQ ρ ρ2 c_m7.2.1 h h2 → TH c_sp ρ2 h2 → c_PT 1 ρ2 h2 → c_PT 2 ρ2 h2 → (z.toInt = -1 ∧ 581 ≤ u_now h ∧ (h_i h2 (h_r h 16 0) 2).toInt = u_now h) ∨ (z.toInt = u_now h + 20 ∧ u_now h ≤ 580 ∧ (h_i h2 (h_r h 16 0) 2).toInt = u_now h + 20) → HJ 0 225 lv [.int z] h2 Q := fun ρ2 h2 z f t2 m1 m2 hz => by
    obtain ⟨s1, s2, s3⟩ := sc_fr ht f r0 (by decide +kernel)
    have r2' : ρ2 (α 2) = 49 := (f.2.1 _ (by rw [r2]; decide)).trans r2
    have h16' : ρ2 16 = 6 := (f.2.1 16 (by rw [h16]; decide)).trans h16
    have m7 : c_PT 7 ρ2 h2 := c_PTx 7 _ _ _ h h2 ht f (by decide +kernel) n7
    refine hI_pop rfl rfl rfl ?_
    refine hI_al (k := 2) rfl e2 rfl ?_
    refine hL_arg (n := 1) rfl rfl rfl rfl rfl (by decide) (by decide) (by decide) e0 e3 t2 s1 x0 (by first | exact xl | (rw [s2]; exact xl)) ?_
    refine hL_arg (n := 2) rfl rfl rfl rfl rfl (by decide) (by decide) (by decide) e0 e3 t2 s1 x0 (by first | exact xl | (rw [s2]; exact xl)) ?_
    refine hL_arg (n := 3) rfl rfl rfl rfl rfl (by decide) (by decide) (by decide) e0 e3 t2 s1 x0 (by first | exact xl | (rw [s2]; exact xl)) ?_
    refine hL_arg (n := 4) rfl rfl rfl rfl rfl (by decide) (by decide) (by decide) e0 e3 t2 s1 x0 (by first | exact xl | (rw [s2]; exact xl)) ?_
    refine hL_arg (n := 5) rfl rfl rfl rfl rfl (by decide) (by decide) (by decide) e0 e3 t2 s1 x0 (by first | exact xl | (rw [s2]; exact xl)) ?_
    rw [s3, s3, s3, s3, s3, hk1, hk2, hk3, hk4, hk5]
    refine hM_iv (MX.start (W := []) t2 r2') (by decide) rfl rfl (by decide) (as := [.int xk1, .int xk2, .int xk3, .int xk4, .int xk5]) (r := []) rfl rfl (by decide +kernel) rfl (by decide +kernel) rfl rfl rfl rfl rfl ?_
    have m10 : c_PT 10 ρ2 h2 := c_PTx 10 _ _ _ h h2 ht f (by decide +kernel) n10
    obtain ⟨eI, eU⟩ := us_im (D := [(6, 1), (8, 1001), (8, 1002), (97, 2)]) ht f h16 (by decide +kernel) (by decide) (by decide) (by decide) (by decide)
    have eN := (us_nw (D := [(6, 0)]) ht f h16 (by decide +kernel) (by decide)).1
    have eS := us_sz (D := [(49, 2), (51, 1001), (51, 1002)]) ht f r2 (by decide +kernel) (by decide) (by decide) (by decide)
    obtain ⟨rS, bS⟩ := sz_r t2 r2'
    have endd : ∀ (ρ3 : Nat → Nat) (y : Int32) (h3 : MH), FQ ρ2 ρ3 c_m183.2.1 h2 h3 → TH c_sp ρ3 h3 → y.toInt = z.toInt → (h_i h3 (h_r h2 (α 2) 2) 0).toInt = (h_i h2 (h_r h 16 0) 2).toInt → (h_i h3 (h_r h2 (α 2) 2) 1).toInt = (h_i h2 (h_r h2 (α 2) 2) 1).toInt → (h_i h3 (h_r h2 (α 2) 2) 2).toInt = (h_i h2 (h_r h2 (α 2) 2) 2).toInt → (h_i h3 (h_r h2 (α 2) 2) 3).toInt = (h_i h2 (h_r h2 (α 2) 2) 3).toInt → HJ 0 255 lv [.int y] h3 Q := fun ρ3 y h3 f3 t3 qy k0 k1 k2 k3 => by
      refine hI_pop rfl rfl rfl ?_
      refine hI_go (pc' := 2035) rfl (by decide) ?_
      have r23 : ρ3 (α 2) = 49 := (f3.2.1 _ (by rw [r2']; decide)).trans r2'
      obtain ⟨eI3, eU3⟩ := us_im (D := [(6, 1), (8, 1001), (8, 1002), (97, 2)]) t2 f3 h16' (by decide +kernel) (by decide) (by decide) (by decide) (by decide)
      obtain ⟨eN3, eN4⟩ := us_nw (D := [(6, 0), (7, 2)]) t2 f3 h16' (by decide +kernel) (by decide)
      have eS3 := sz_f t2 f3 r2' (by decide +kernel)
      have a10 : c_PT 10 ρ3 h3 := c_PTx 10 _ _ _ h2 h3 t2 f3 (by decide +kernel) m10
      refine fin ρ3 h3 ((f.mono (by decide +kernel)).trans (f3.mono (by decide +kernel))) t3 (c_PTx 1 _ _ _ h2 h3 t2 f3 (by decide +kernel) m1) (c_PTx 2 _ _ _ h2 h3 t2 f3 (by decide +kernel) m2) (c_PTx 7 _ _ _ h2 h3 t2 f3 (by decide +kernel) m7) a10 (us_mk a10.1 a10.2.1 r23 (fun j k hj hk hjk => by rw [eI3, eI3, eI, eI]; exact n11.2.2.1 j k hj hk hjk) ⟨?_, fun j hj h0 => ?_⟩)
      · rw [eN4 (by decide), eS3, k0]
        unfold u_now
        rw [eN]
      · rw [eI3, eI] at h0
        rw [eU3 j hj (by rw [eI]; exact h0), eU j hj h0, us2 j hj h0, eS3, ← eS]
        match j, hj with
        | 0, _ => exact k1.symm
        | 1, _ => exact k2.symm
        | 2, _ => exact k3.symm
    have us0 : (h_i h2 (h_r h2 (α 2) 2) 0).toInt = u_now h := ((eS 0).trans us1.symm : v_sz h2 (α 2) 0 = u_now h)
    refine c_k183 (hC.x f) t2 rfl rfl rfl rfl rfl rfl r2' rS (bS 0 (by decide)) (bS 1 (by decide)) (bS 2 (by decide)) (bS 3 (by decide)) m7 (fun ρ3 h3 y f3 t3 d1 d2 d3 d4 d5 d6 => endd ρ3 y h3 f3 t3 (by omega) (by omega) d4 d5 d6) (fun ρ3 h3 y f3 t3 d1 d2 d3 d4 d5 d6 => endd ρ3 y h3 f3 t3 (by omega) (by omega) d4 d5 d6)
  exact c_k7 hC ht rfl rfl rfl rfl rfl rfl h16 bN.1 bN.2 n1 n2 (fun ρ2 h2 z f t2 e1 e2 e3 m1 m2 => snd ρ2 h2 z f t2 m1 m2 (Or.inl ⟨e1, by unfold u_now; omega, e3⟩)) (fun ρ2 h2 z f t2 e1 e2 e3 m1 m2 => snd ρ2 h2 z f t2 m1 m2 (Or.inr ⟨e1, by unfold u_now; omega, e3⟩))
set_option maxRecDepth 100000 in
theorem case_1 : d_hand c_sp c_CC c_PT 0 c_m0 c_lcuts c_h1 := fun ρ K KA lv h σ α Q hC ht hw hT go => by
  obtain ⟨⟨e0, r0⟩, ⟨e1, r1⟩, ⟨e2, r2⟩, x, e3, qx, x0, x5, xl⟩ := lc_in hw
  have n1 := hT 1 (by decide)
  have n2 := hT 2 (by decide)
  have n7 := hT 7 (by decide)
  have n10 := hT 10 (by decide)
  have n11 := hT 11 (by decide)
  have m16 : α 1 = 16 := n2.1.2.2.2.2.2.1 _ r1
  have h16 := n10.1
  obtain ⟨us1, us2⟩ := n11.2.2.2 (α 2) r2
  have fin : ∀ (ρ' : Nat → Nat) (h' : MH), FQ ρ ρ' c_m0.2.1 h h' → TH c_sp ρ' h' → c_PT 1 ρ' h' → c_PT 2 ρ' h' → c_PT 7 ρ' h' → c_PT 10 ρ' h' → c_PT 11 ρ' h' → HJ 0 2035 lv [] h' Q := fun ρ' h' f t a1 a2 a7 a10 a11 => go c_hb hb_mem lv h' ρ' σ α f t (lc_out hw ht f) (by show 0 ≤ -3 * σ 3 + 0 + 2999; omega) (by show -3 * σ 3 + 0 + 2999 < -3 * σ 3 + 0 + 3000; omega) (t_5 a1 a2 a7 a10 a11)
  show HJ 0 259 lv [] h Q
  refine hI_al (k := 1) rfl e1 rfl ?_
  refine hL_arg (n := 1) rfl rfl rfl rfl rfl (by decide) (by decide) (by decide) e0 e3 ht r0 x0 (by first | exact xl | (rw [s2]; exact xl)) ?_
  generalize hk1 : h_i h (α 0) (x.toInt + 1).toNat = xk1
  refine hM_iv (MX.start (W := []) ht r1) (by decide) rfl rfl (by decide) (as := [.int xk1]) (r := []) rfl rfl (by decide +kernel) rfl (by decide +kernel) rfl rfl rfl rfl rfl ?_
  rw [m16]
  have bN := nwr ht h16
  have snd : ∀ (ρ2 : Nat → Nat) (h2 : MH) (z : Int32), FQ ρ ρ2 c_m9.2.1 h h2 → TH c_sp ρ2 h2 → c_PT 1 ρ2 h2 → c_PT 2 ρ2 h2 → (z.toInt = -1 ∧ (xk1.toInt < 0 ∨ u_now h < xk1.toInt) ∧ (h_i h2 (h_r h 16 0) 2).toInt = u_now h) ∨ (z.toInt = xk1.toInt ∧ 0 ≤ xk1.toInt ∧ xk1.toInt ≤ u_now h ∧ (h_i h2 (h_r h 16 0) 2).toInt = xk1.toInt) → HJ 0 268 lv [.int z] h2 Q := fun ρ2 h2 z f t2 m1 m2 hz => by
    obtain ⟨s1, s2, s3⟩ := sc_fr ht f r0 (by decide +kernel)
    have r2' : ρ2 (α 2) = 49 := (f.2.1 _ (by rw [r2]; decide)).trans r2
    have h16' : ρ2 16 = 6 := (f.2.1 16 (by rw [h16]; decide)).trans h16
    have m7 : c_PT 7 ρ2 h2 := c_PTx 7 _ _ _ h h2 ht f (by decide +kernel) n7
    refine hI_al (k := 2) rfl e2 rfl ?_
    refine hL_arg (n := 1) rfl rfl rfl rfl rfl (by decide) (by decide) (by decide) e0 e3 t2 s1 x0 (by first | exact xl | (rw [s2]; exact xl)) ?_
    rw [s3, hk1]
    refine hM_iv (MX.start (W := []) t2 r2') (by decide) rfl rfl (by decide) (as := [.int xk1]) (r := [.int z]) rfl rfl (by decide +kernel) rfl (by decide +kernel) rfl rfl rfl rfl rfl ?_
    have m10 : c_PT 10 ρ2 h2 := c_PTx 10 _ _ _ h h2 ht f (by decide +kernel) n10
    obtain ⟨eI, eU⟩ := us_im (D := [(6, 1), (8, 1001), (8, 1002), (97, 2)]) ht f h16 (by decide +kernel) (by decide) (by decide) (by decide) (by decide)
    have eN := (us_nw (D := [(6, 0)]) ht f h16 (by decide +kernel) (by decide)).1
    have eS := us_sz (D := [(49, 2), (51, 1001), (51, 1002)]) ht f r2 (by decide +kernel) (by decide) (by decide) (by decide)
    obtain ⟨rS, bS⟩ := sz_r t2 r2'
    have endd : ∀ (ρ3 : Nat → Nat) (y : Int32) (h3 : MH), FQ ρ2 ρ3 c_m185.2.1 h2 h3 → TH c_sp ρ3 h3 → y.toInt = z.toInt → (h_i h3 (h_r h2 (α 2) 2) 0).toInt = (h_i h2 (h_r h 16 0) 2).toInt → (h_i h3 (h_r h2 (α 2) 2) 1).toInt = (h_i h2 (h_r h2 (α 2) 2) 1).toInt → (h_i h3 (h_r h2 (α 2) 2) 2).toInt = (h_i h2 (h_r h2 (α 2) 2) 2).toInt → (h_i h3 (h_r h2 (α 2) 2) 3).toInt = (h_i h2 (h_r h2 (α 2) 2) 3).toInt → HJ 0 277 lv [.int y, .int z] h3 Q := fun ρ3 y h3 f3 t3 qy k0 k1 k2 k3 => by
      refine hM_ceq (off := 1758) (t := 2035) rfl rfl qy (by decide) rfl (fun _ => ?_) (fun c => absurd rfl c)
      have r23 : ρ3 (α 2) = 49 := (f3.2.1 _ (by rw [r2']; decide)).trans r2'
      obtain ⟨eI3, eU3⟩ := us_im (D := [(6, 1), (8, 1001), (8, 1002), (97, 2)]) t2 f3 h16' (by decide +kernel) (by decide) (by decide) (by decide) (by decide)
      obtain ⟨eN3, eN4⟩ := us_nw (D := [(6, 0), (7, 2)]) t2 f3 h16' (by decide +kernel) (by decide)
      have eS3 := sz_f t2 f3 r2' (by decide +kernel)
      have a10 : c_PT 10 ρ3 h3 := c_PTx 10 _ _ _ h2 h3 t2 f3 (by decide +kernel) m10
      refine fin ρ3 h3 ((f.mono (by decide +kernel)).trans (f3.mono (by decide +kernel))) t3 (c_PTx 1 _ _ _ h2 h3 t2 f3 (by decide +kernel) m1) (c_PTx 2 _ _ _ h2 h3 t2 f3 (by decide +kernel) m2) (c_PTx 7 _ _ _ h2 h3 t2 f3 (by decide +kernel) m7) a10 (us_mk a10.1 a10.2.1 r23 (fun j k hj hk hjk => by rw [eI3, eI3, eI, eI]; exact n11.2.2.1 j k hj hk hjk) ⟨?_, fun j hj h0 => ?_⟩)
      · rw [eN4 (by decide), eS3, k0]
        unfold u_now
        rw [eN]
      · rw [eI3, eI] at h0
        rw [eU3 j hj (by rw [eI]; exact h0), eU j hj h0, us2 j hj h0, eS3, ← eS]
        match j, hj with
        | 0, _ => exact k1.symm
        | 1, _ => exact k2.symm
        | 2, _ => exact k3.symm
    have us0 : (h_i h2 (h_r h2 (α 2) 2) 0).toInt = u_now h := ((eS 0).trans us1.symm : v_sz h2 (α 2) 0 = u_now h)
    refine c_k185 (hC.x f) t2 rfl rfl r2' rS (bS 0 (by decide)) (bS 1 (by decide)) (bS 2 (by decide)) (bS 3 (by decide)) m7 (fun ρ3 h3 y f3 t3 d1 d2 d3 d4 d5 d6 => endd ρ3 y h3 f3 t3 (by omega) (by omega) d4 d5 d6) (fun ρ3 h3 y f3 t3 d1 d2 d3 d4 d5 d6 => endd ρ3 y h3 f3 t3 (by omega) (by omega) d4 d5 d6) (fun ρ3 h3 y f3 t3 d1 d2 d3 d4 d5 d6 d7 => endd ρ3 y h3 f3 t3 (by omega) (by omega) d5 d6 d7)
  exact c_k9 hC ht rfl rfl h16 bN.1 bN.2 n1 n2 (fun ρ2 h2 z f t2 e1 e2 e3 m1 m2 => snd ρ2 h2 z f t2 m1 m2 (Or.inl ⟨e1, Or.inl (by omega), e3⟩)) (fun ρ2 h2 z f t2 e1 e2 e3 m1 m2 => snd ρ2 h2 z f t2 m1 m2 (Or.inl ⟨e1, Or.inr (by unfold u_now; omega), e3⟩)) (fun ρ2 h2 z f t2 e1 e2 e3 e4 m1 m2 => snd ρ2 h2 z f t2 m1 m2 (Or.inr ⟨e1, by omega, by unfold u_now; omega, e4⟩))
set_option maxRecDepth 100000 in
theorem case_2 : d_hand c_sp c_CC c_PT 0 c_m0 c_lcuts c_h2 := fun ρ K KA lv h σ α Q hC ht hw hT go => by
  obtain ⟨⟨e0, r0⟩, ⟨e1, r1⟩, ⟨e2, r2⟩, x, e3, qx, x0, x5, xl⟩ := lc_in hw
  have n1 := hT 1 (by decide)
  have n2 := hT 2 (by decide)
  have n7 := hT 7 (by decide)
  have n10 := hT 10 (by decide)
  have n11 := hT 11 (by decide)
  have m16 : α 1 = 16 := n2.1.2.2.2.2.2.1 _ r1
  have h16 := n10.1
  obtain ⟨us1, us2⟩ := n11.2.2.2 (α 2) r2
  have fin : ∀ (ρ' : Nat → Nat) (h' : MH), FQ ρ ρ' c_m0.2.1 h h' → TH c_sp ρ' h' → c_PT 1 ρ' h' → c_PT 2 ρ' h' → c_PT 7 ρ' h' → c_PT 10 ρ' h' → c_PT 11 ρ' h' → HJ 0 2035 lv [] h' Q := fun ρ' h' f t a1 a2 a7 a10 a11 => go c_hb hb_mem lv h' ρ' σ α f t (lc_out hw ht f) (by show 0 ≤ -3 * σ 3 + 0 + 2999; omega) (by show -3 * σ 3 + 0 + 2999 < -3 * σ 3 + 0 + 3000; omega) (t_5 a1 a2 a7 a10 a11)
  show HJ 0 282 lv [] h Q
  refine hI_al (k := 1) rfl e1 rfl ?_
  refine hL_arg (n := 1) rfl rfl rfl rfl rfl (by decide) (by decide) (by decide) e0 e3 ht r0 x0 (by first | exact xl | (rw [s2]; exact xl)) ?_
  generalize hk1 : h_i h (α 0) (x.toInt + 1).toNat = xk1
  refine hM_iv (MX.start (W := []) ht r1) (by decide) rfl rfl (by decide) (as := [.int xk1]) (r := []) rfl rfl (by decide +kernel) rfl (by decide +kernel) rfl rfl rfl rfl rfl ?_
  rw [m16]
  have bN := nwr ht h16
  refine c_k10 hC ht rfl rfl h16 bN.1 n1 n2 (fun ρ2 h2 y3 z f t2 _ _ e1 m1 m2 => ?_)
  show HJ 0 291 lv [.int z] h2 Q
  · skip
    obtain ⟨s1, s2, s3⟩ := sc_fr ht f r0 (by decide +kernel)
    have r2' : ρ2 (α 2) = 49 := (f.2.1 _ (by rw [r2]; decide)).trans r2
    have h16' : ρ2 16 = 6 := (f.2.1 16 (by rw [h16]; decide)).trans h16
    have m7 : c_PT 7 ρ2 h2 := c_PTx 7 _ _ _ h h2 ht f (by decide +kernel) n7
    refine hI_pop rfl rfl rfl ?_
    refine hI_al (k := 2) rfl e2 rfl ?_
    refine hL_arg (n := 1) rfl rfl rfl rfl rfl (by decide) (by decide) (by decide) e0 e3 t2 s1 x0 (by first | exact xl | (rw [s2]; exact xl)) ?_
    rw [s3, hk1]
    refine hM_iv (MX.start (W := []) t2 r2') (by decide) rfl rfl (by decide) (as := [.int xk1]) (r := []) rfl rfl (by decide +kernel) rfl (by decide +kernel) rfl rfl rfl rfl rfl ?_
    have m10 : c_PT 10 ρ2 h2 := c_PTx 10 _ _ _ h h2 ht f (by decide +kernel) n10
    obtain ⟨eI, eU⟩ := us_im (D := [(6, 1), (8, 1001), (8, 1002), (97, 2)]) ht f h16 (by decide +kernel) (by decide) (by decide) (by decide) (by decide)
    have eN := (us_nw (D := [(6, 0)]) ht f h16 (by decide +kernel) (by decide)).1
    have eS := us_sz (D := [(49, 2), (51, 1001), (51, 1002)]) ht f r2 (by decide +kernel) (by decide) (by decide) (by decide)
    obtain ⟨rS, bS⟩ := sz_r t2 r2'
    have rM := (th_rf t2 (R := 49) (by decide) rfl r2' (k := 5) rfl (fun z => by cases z)).2
    have rT := (th_rf t2 (R := 49) (by decide) rfl r2' (k := 16) rfl (fun z => by cases z)).2
    refine c_k187 (hC.x f) t2 rfl rfl r2' rM rS rT (bS 1 (by decide)) (bS 2 (by decide)) (bS 3 (by decide)) m7 (fun ρ3 h3 _ y f3 t3 _ _ k0 k1 k2 k3 a7 => ?_)
    show HJ 0 301 lv [.int y] h3 Q
    · skip
      refine hI_pop rfl rfl rfl ?_
      refine hI_go (pc' := 2035) rfl (by decide) ?_
      have r23 : ρ3 (α 2) = 49 := (f3.2.1 _ (by rw [r2']; decide)).trans r2'
      obtain ⟨eI3, eU3⟩ := us_im (D := [(6, 1), (8, 1001), (8, 1002), (97, 2)]) t2 f3 h16' (by decide +kernel) (by decide) (by decide) (by decide) (by decide)
      obtain ⟨eN3, eN4⟩ := us_nw (D := [(6, 0), (7, 2)]) t2 f3 h16' (by decide +kernel) (by decide)
      have eS3 := sz_f t2 f3 r2' (by decide +kernel)
      have a10 : c_PT 10 ρ3 h3 := c_PTx 10 _ _ _ h2 h3 t2 f3 (by decide +kernel) m10
      refine fin ρ3 h3 ((f.mono (by decide +kernel)).trans (f3.mono (by decide +kernel))) t3 (c_PTx 1 _ _ _ h2 h3 t2 f3 (by decide +kernel) m1) (c_PTx 2 _ _ _ h2 h3 t2 f3 (by decide +kernel) m2) a7 a10 (us_mk a10.1 a10.2.1 r23 (fun j k hj hk hjk => by rw [eI3, eI3, eI, eI]; exact n11.2.2.1 j k hj hk hjk) ⟨?_, fun j hj h0 => ?_⟩)
      · rw [eN4 (by decide), eS3, k0]
        unfold u_now
        rw [eN, e1]
      · rw [eI3, eI] at h0
        rw [eU3 j hj (by rw [eI]; exact h0), eU j hj h0, us2 j hj h0, eS3, ← eS]
        match j, hj with
        | 0, _ => exact k1.symm
        | 1, _ => exact k2.symm
        | 2, _ => exact k3.symm
set_option maxRecDepth 100000 in
theorem case_36 : d_hand c_sp c_CC c_PT 0 c_m0 c_lcuts c_h36 := fun ρ K KA lv h σ α Q hC ht hw hT go => by
  obtain ⟨⟨e0, r0⟩, ⟨e1, r1⟩, ⟨e2, r2⟩, x, e3, qx, x0, x5, xl⟩ := lc_in hw
  have n1 := hT 1 (by decide)
  have n2 := hT 2 (by decide)
  have n7 := hT 7 (by decide)
  have n10 := hT 10 (by decide)
  have n11 := hT 11 (by decide)
  have m16 : α 1 = 16 := n2.1.2.2.2.2.2.1 _ r1
  have h16 := n10.1
  obtain ⟨us1, us2⟩ := n11.2.2.2 (α 2) r2
  have fin : ∀ (ρ' : Nat → Nat) (h' : MH), FQ ρ ρ' c_m0.2.1 h h' → TH c_sp ρ' h' → c_PT 1 ρ' h' → c_PT 2 ρ' h' → c_PT 7 ρ' h' → c_PT 10 ρ' h' → c_PT 11 ρ' h' → HJ 0 2035 lv [] h' Q := fun ρ' h' f t a1 a2 a7 a10 a11 => go c_hb hb_mem lv h' ρ' σ α f t (lc_out hw ht f) (by show 0 ≤ -3 * σ 3 + 0 + 2999; omega) (by show -3 * σ 3 + 0 + 2999 < -3 * σ 3 + 0 + 3000; omega) (t_5 a1 a2 a7 a10 a11)
  show HJ 0 2012 lv [] h Q
  refine hI_al (k := 1) rfl e1 rfl ?_
  refine hL_arg (n := 1) rfl rfl rfl rfl rfl (by decide) (by decide) (by decide) e0 e3 ht r0 x0 (by first | exact xl | (rw [s2]; exact xl)) ?_
  generalize hk1 : h_i h (α 0) (x.toInt + 1).toNat = xk1
  refine hM_iv (MX.start (W := []) ht r1) (by decide) rfl rfl (by decide) (as := [.int xk1]) (r := []) rfl rfl (by decide +kernel) rfl (by decide +kernel) rfl rfl rfl rfl rfl ?_
  rw [m16]
  have snd : ∀ (ρ2 : Nat → Nat) (h2 : MH) (z : Int32), FQ ρ ρ2 w_ag h h2 → TH c_sp ρ2 h2 → c_PT 1 ρ2 h2 → c_PT 2 ρ2 h2 → (z.toInt = 0 ∧ ((xk1.toInt < 0 ∨ 3 ≤ xk1.toInt) ∨ (0 ≤ xk1.toInt ∧ xk1.toInt < 3 ∧ r_im h xk1.toInt.toNat = 0)) ∧ u_now h2 = u_now h) ∨ (z.toInt = 1 ∧ 0 ≤ xk1.toInt ∧ xk1.toInt < 3 ∧ r_im h xk1.toInt.toNat ≠ 0 ∧ u_now h2 = u_im h xk1.toInt.toNat) → HJ 0 2021 lv [.int z] h2 Q := fun ρ2 h2 z f t2 m1 m2 hz => by
    obtain ⟨s1, s2, s3⟩ := sc_fr ht f r0 (by decide +kernel)
    have r2' : ρ2 (α 2) = 49 := (f.2.1 _ (by rw [r2]; decide)).trans r2
    have h16' : ρ2 16 = 6 := (f.2.1 16 (by rw [h16]; decide)).trans h16
    have m7 : c_PT 7 ρ2 h2 := c_PTx 7 _ _ _ h h2 ht f (by decide +kernel) n7
    refine hI_pop rfl rfl rfl ?_
    refine hI_al (k := 2) rfl e2 rfl ?_
    refine hL_arg (n := 1) rfl rfl rfl rfl rfl (by decide) (by decide) (by decide) e0 e3 t2 s1 x0 (by first | exact xl | (rw [s2]; exact xl)) ?_
    rw [s3, hk1]
    refine hM_iv (MX.start (W := []) t2 r2') (by decide) rfl rfl (by decide) (as := [.int xk1]) (r := []) rfl rfl (by decide +kernel) rfl (by decide +kernel) rfl rfl rfl rfl rfl ?_
    have m10 : c_PT 10 ρ2 h2 := c_PTx 10 _ _ _ h h2 ht f (by decide +kernel) n10
    obtain ⟨eI, eU⟩ := us_im (D := [(6, 1), (8, 1001), (8, 1002), (97, 2)]) ht f h16 (by decide +kernel) (by decide) (by decide) (by decide) (by decide)
    have eS := us_sz (D := [(49, 2), (51, 1001), (51, 1002)]) ht f r2 (by decide +kernel) (by decide) (by decide) (by decide)
    have M := MX.start (W := w_m2) t2 r2'
    have k10 := hv_10i M m10
    have vS : ∀ {h3 : MH} {F' : Nat → Int} {V' : Nat → Nat → Int} {G' : Nat → Nat → Int64}, MX 49 w_m2 ρ2 (α 2) (h_r h2 (α 2)) h2 h3 F' V' G' → ∀ j, v_sz h3 (α 2) j = V' 2 j := fun M3 j => congrFun (M3.v (K := 2) (by decide +kernel)) j
    have endd : ∀ (y : Int32) (h3 : MH) (F' : Nat → Int) (V' : Nat → Nat → Int) (G' : Nat → Nat → Int64), y.toInt = z.toInt → p_rw (V' 6) → MX 49 w_m2 ρ2 (α 2) (h_r h2 (α 2)) h2 h3 F' V' G' → V' 2 0 = u_now h2 → (∀ j, j < 3 → V' 2 (j + 1) = v_sz h2 (α 2) (j + 1)) → HJ 0 2031 lv [.int y] h3 Q := fun y h3 F' V' G' qy k7 M3 k0 k1 => by
      refine hI_pop rfl rfl rfl ?_
      refine hI_go (pc' := 2035) rfl (by decide) ?_
      have f3 := M3.1.2.2.fq
      obtain ⟨eI3, eU3⟩ := us_im (D := [(6, 1), (8, 1001), (8, 1002), (97, 2)]) t2 f3 h16' (by decide +kernel) (by decide) (by decide) (by decide) (by decide)
      obtain ⟨eN3, eN4⟩ := us_nw (D := [(6, 0), (7, 2)]) t2 f3 h16' (by decide +kernel) (by decide)
      refine fin ρ2 h3 ((f.mono (by decide +kernel)).trans (f3.mono (by decide +kernel))) M3.1.1 (c_PTx 1 _ _ _ h2 h3 t2 f3 (by decide +kernel) m1) (c_PTx 2 _ _ _ h2 h3 t2 f3 (by decide +kernel) m2) (hv_7 M3 m7.1 k7) (c_PTx 10 _ _ _ h2 h3 t2 f3 (by decide +kernel) m10) (us_mk h16' m7.1 r2' (fun j k hj hk hjk => by rw [eI3, eI3, eI, eI]; exact n11.2.2.1 j k hj hk hjk) ⟨?_, fun j hj h0 => ?_⟩)
      · rw [eN4 (by decide), vS M3, k0]
      · rw [eI3, eI] at h0
        rw [eU3 j hj (by rw [eI]; exact h0), eU j hj h0, us2 j hj h0, vS M3, k1 j hj, eS]
    refine c_magain M rfl rfl rfl (by decide +kernel) (c_ca (by decide +kernel)) (fun y h3 F' qy hb M3 => ?_) (fun y h3 F' V' G' qy c0 c2 hne v67 ψ M3 => ?_)
    · rcases hz with ⟨q, -, eu⟩ | ⟨q, c0, c3, hne, -⟩
      · exact endd y h3 F' _ _ (by omega) (hv_7i M m7) M3 (by rw [eu, us1, ← eS]; rfl) (fun j hj => rfl)
      · rcases hb with hb | ⟨-, -, hb⟩
        · omega
        · exact absurd ((eI _).symm.trans ((k10 _ (by omega)).mpr hb)) hne
    · rcases hz with ⟨q, hb, -⟩ | ⟨q, -, c3, hn, eu⟩
      · rcases hb with hb | ⟨-, -, hb⟩
        · omega
        · exact absurd ((k10 _ (by omega)).mp ((eI _).trans hb)) hne
      · have ψ : cp_all (xk1.toInt + 1).toNat (0 : Int).toNat _ V' := ψ
        obtain ⟨-, p2, -, -, -, p6, -⟩ := ψ
        refine endd y h3 F' V' G' (by omega) (p_rwC p6 (by omega) (hv_7i M m7)) M3 ?_ (fun j hj => ?_)
        · have := p2.1 0 (by decide)
          rw [eu, us2 _ (by omega) hn, ← eS]
          rw [show 1 * (0 : Int).toNat + 0 = 0 from rfl, show 1 * (xk1.toInt + 1).toNat + 0 = xk1.toInt.toNat + 1 by omega] at this
          exact this
        · exact p2.2 (j + 1) (Or.inr (by show 1 * 0 + 1 ≤ j + 1; omega))
  exact c_again hC ht h16 n1 n2 rfl rfl (fun z qz hb => snd ρ h z (FQ.refl _ _ _) ht n1 n2 (Or.inl ⟨qz, hb, rfl⟩)) (fun ρ2 h2 z qz c0 c3 hne f t2 m1 m2 eu => snd ρ2 h2 z f t2 m1 m2 (Or.inr ⟨qz, c0, c3, hne, eu⟩))
set_option maxRecDepth 100000 in
theorem case_35 : d_hand c_sp c_CC c_PT 0 c_m0 c_lcuts c_h35 := fun ρ K KA lv h σ α Q hC ht hw hT go => by
  obtain ⟨⟨e0, r0⟩, ⟨e1, r1⟩, ⟨e2, r2⟩, x, e3, qx, x0, x5, xl⟩ := lc_in hw
  have n1 := hT 1 (by decide)
  have n2 := hT 2 (by decide)
  have n7 := hT 7 (by decide)
  have n10 := hT 10 (by decide)
  have n11 := hT 11 (by decide)
  have m16 : α 1 = 16 := n2.1.2.2.2.2.2.1 _ r1
  have h16 := n10.1
  obtain ⟨us1, us2⟩ := n11.2.2.2 (α 2) r2
  have fin : ∀ (ρ' : Nat → Nat) (h' : MH), FQ ρ ρ' c_m0.2.1 h h' → TH c_sp ρ' h' → c_PT 1 ρ' h' → c_PT 2 ρ' h' → c_PT 7 ρ' h' → c_PT 10 ρ' h' → c_PT 11 ρ' h' → HJ 0 2035 lv [] h' Q := fun ρ' h' f t a1 a2 a7 a10 a11 => go c_hb hb_mem lv h' ρ' σ α f t (lc_out hw ht f) (by show 0 ≤ -3 * σ 3 + 0 + 2999; omega) (by show -3 * σ 3 + 0 + 2999 < -3 * σ 3 + 0 + 3000; omega) (t_5 a1 a2 a7 a10 a11)
  show HJ 0 1989 lv [] h Q
  refine hI_al (k := 1) rfl e1 rfl ?_
  refine hL_arg (n := 1) rfl rfl rfl rfl rfl (by decide) (by decide) (by decide) e0 e3 ht r0 x0 (by first | exact xl | (rw [s2]; exact xl)) ?_
  generalize hk1 : h_i h (α 0) (x.toInt + 1).toNat = xk1
  refine hM_iv (MX.start (W := []) ht r1) (by decide) rfl rfl (by decide) (as := [.int xk1]) (r := []) rfl rfl (by decide +kernel) rfl (by decide +kernel) rfl rfl rfl rfl rfl ?_
  rw [m16]
  have snd : ∀ (ρ2 : Nat → Nat) (h2 : MH) (z : Int32), FQ ρ ρ2 w_im h h2 → TH c_sp ρ2 h2 → c_PT 1 ρ2 h2 → c_PT 2 ρ2 h2 → u_now h2 = u_now h → im_ne h2 → (z.toInt = 0 ∧ (xk1.toInt < 0 ∨ 3 ≤ xk1.toInt) ∧ h2 = h ∧ ρ2 = ρ) ∨ (z.toInt = 1 ∧ 0 ≤ xk1.toInt ∧ xk1.toInt < 3 ∧ r_im h2 xk1.toInt.toNat ≠ 0 ∧ u_im h2 xk1.toInt.toNat = u_now h ∧ (∀ j, j ≠ xk1.toInt.toNat → r_im h2 j = r_im h j) ∧ ∀ j, j < 3 → j ≠ xk1.toInt.toNat → r_im h j ≠ 0 → u_im h2 j = u_im h j) → HJ 0 1998 lv [.int z] h2 Q := fun ρ2 h2 z f t2 m1 m2 eu ne hz => by
    obtain ⟨s1, s2, s3⟩ := sc_fr ht f r0 (by decide +kernel)
    have r2' : ρ2 (α 2) = 49 := (f.2.1 _ (by rw [r2]; decide)).trans r2
    have h16' : ρ2 16 = 6 := (f.2.1 16 (by rw [h16]; decide)).trans h16
    have m7 : c_PT 7 ρ2 h2 := c_PTx 7 _ _ _ h h2 ht f (by decide +kernel) n7
    refine hI_pop rfl rfl rfl ?_
    refine hI_al (k := 2) rfl e2 rfl ?_
    refine hL_arg (n := 1) rfl rfl rfl rfl rfl (by decide) (by decide) (by decide) e0 e3 t2 s1 x0 (by first | exact xl | (rw [s2]; exact xl)) ?_
    rw [s3, hk1]
    refine hM_iv (MX.start (W := []) t2 r2') (by decide) rfl rfl (by decide) (as := [.int xk1]) (r := []) rfl rfl (by decide +kernel) rfl (by decide +kernel) rfl rfl rfl rfl rfl ?_
    have eS := us_sz (D := [(49, 2), (51, 1001), (51, 1002)]) ht f r2 (by decide +kernel) (by decide) (by decide) (by decide)
    have M := MX.start (W := w_mg) t2 r2'
    have k0 : ∀ k, k < 3 → (r_im h k = 0 ↔ (h_i h2 (h_r h2 (α 2) 67) k).toInt = 0) := fun k hk3 => by
      have l2 := (ht.2 (α 2) (by rw [r2]; decide)).1
      have ek : h_i h2 (h_r h2 (α 2) 67) k = h_i h (h_r h (α 2) 67) k := fq_arr f ht (D := [(49, 67), (96, 1001), (96, 1002)]) (by decide +kernel) (by decide) rfl rfl rfl (List.mem_of_getElem? (i := 0) rfl) (by decide) (List.mem_of_getElem? (i := 1) rfl) (List.mem_of_getElem? (i := 2) rfl) (by decide) r2 l2 k
      rw [ek]
      exact n10.2.2 (α 2) r2 k hk3
    have vS : ∀ {h3 : MH} {F' : Nat → Int} {V' : Nat → Nat → Int} {G' : Nat → Nat → Int64}, MX 49 w_mg ρ2 (α 2) (h_r h2 (α 2)) h2 h3 F' V' G' → ∀ j, v_sz h3 (α 2) j = V' 2 j := fun M3 j => congrFun (M3.v (K := 2) (by decide +kernel)) j
    have endd : ∀ (y : Int32) (h3 : MH) (F' : Nat → Int) (V' : Nat → Nat → Int) (G' : Nat → Nat → Int64), y.toInt = z.toInt → p_rw (V' 6) → MX 49 w_mg ρ2 (α 2) (h_r h2 (α 2)) h2 h3 F' V' G' → (∀ k, k < 3 → (r_im h2 k = 0 ↔ V' 67 k = 0)) → V' 2 0 = u_now h → (∀ j, j < 3 → r_im h2 j ≠ 0 → u_im h2 j = V' 2 (j + 1)) → HJ 0 2008 lv [.int y] h3 Q := fun y h3 F' V' G' qy k7 M3 k10 kn ki => by
      refine hI_pop rfl rfl rfl ?_
      refine hI_go (pc' := 2035) rfl (by decide) ?_
      have f3 := M3.1.2.2.fq
      obtain ⟨eI3, eU3⟩ := us_im (D := [(6, 1), (8, 1001), (8, 1002), (97, 2)]) t2 f3 h16' (by decide +kernel) (by decide) (by decide) (by decide) (by decide)
      obtain ⟨eN3, eN4⟩ := us_nw (D := [(6, 0), (7, 2)]) t2 f3 h16' (by decide +kernel) (by decide)
      refine fin ρ2 h3 ((f.mono (by decide +kernel)).trans (f3.mono (by decide +kernel))) M3.1.1 (c_PTx 1 _ _ _ h2 h3 t2 f3 (by decide +kernel) m1) (c_PTx 2 _ _ _ h2 h3 t2 f3 (by decide +kernel) m2) (hv_7 M3 m7.1 k7) (hv_10 M3 m7.1 h16' (fun k hk3 => by rw [eI3]; exact k10 k hk3)) (us_mk h16' m7.1 r2' (fun j k hj hk hjk => by rw [eI3, eI3]; exact ne j k hj hk hjk) ⟨?_, fun j hj h0 => ?_⟩)
      · rw [eN4 (by decide), vS M3, kn, eu]
      · rw [eI3] at h0
        rw [eU3 j hj h0, vS M3]
        exact ki j hj h0
    refine c_mimage M rfl rfl rfl (by decide +kernel) (by decide +kernel) (c_ca (by decide +kernel)) (fun y h3 F' qy hb M3 => ?_) (fun y h1 h3 F' V1 G' qy c0 c2 v67 M1 ψ M3 => ?_)
    · rcases hz with ⟨q, -, e, e9⟩ | ⟨-, c0, c3, -⟩
      · subst e
        exact endd y h3 F' _ _ (by omega) (hv_7i M m7) M3 k0 us1.symm (fun j hj h0 => us2 j hj h0)
      · omega
    · rcases hz with ⟨-, hb, -⟩ | ⟨q, -, c3, d1, d2, d3, d4⟩
      · omega
      · have ψ : cp_all (0 : Int).toNat (xk1.toInt + 1).toNat _ V1 := ψ
        obtain ⟨-, p2, -, -, -, p6, -⟩ := ψ
        have es : (xk1.toInt + 1).toNat = xk1.toInt.toNat + 1 := by omega
        rw [es] at p2
        refine endd y h3 F' _ G' (by omega) (by rw [m_uN _ _ _ _ (by decide)]; exact p_rwC p6 (by decide) (hv_7i M m7)) M3 (fun k hk3 => ?_) ?_ (fun j hj h0 => ?_)
        · rw [m_uE]
          by_cases ek : k = xk1.toInt.toNat
          · rw [ek, m_uE]
            exact ⟨fun z => absurd z d1, fun z => by cases z⟩
          · rw [m_uN _ _ _ _ ek, d3 k ek, v67]
            exact k0 k hk3
        · rw [m_uN _ _ _ _ (by decide), p2.2 0 (Or.inl (by omega)), us1, ← eS]
          rfl
        · rw [m_uN _ _ _ _ (by decide)]
          by_cases ek : j = xk1.toInt.toNat
          · have := p2.1 0 (by decide)
            rw [show 1 * (xk1.toInt.toNat + 1) + 0 = xk1.toInt.toNat + 1 by omega, show 1 * (0 : Int).toNat + 0 = 0 from rfl] at this
            rw [ek, d2, us1, this, ← eS]
            rfl
          · rw [p2.2 (j + 1) (by omega), d4 j hj ek (by rw [← d3 j ek]; exact h0), us2 j hj (by rw [← d3 j ek]; exact h0), ← eS]
            rfl
  refine c_image (fun ρ' h' a b h'' => (h_i h'' a 2).toInt = (h_i h' b 2).toInt ∧ h_i h'' b 2 = h_i h' b 2 ∧ ∀ c, c < 16 + h_n h' → ρ' c = 97 → c ≠ a → h_i h'' c 2 = h_i h' c 2) ht h16 n1 n2 rfl rfl (fun ρ' h' a b Q' f t ra rb g => ?_) (fun ρ' h' h2 z b0 b2 qz f t m1 m2 I fs φ => ?_) (fun z qz hb => snd ρ h z (FQ.refl _ _ _) ht n1 n2 rfl n11.2.2.1 (Or.inl ⟨qz, hb, rfl, rfl⟩))
  · have ra' : rs_r ρ' a a = 97 := (rs_of (Or.inr rfl) (by rw [ra]; decide) (by rw [ra]; decide)).trans ra
    have rb' : rs_r ρ' a b = 7 := (rs_of (Or.inl (by rw [rb]; decide)) (by rw [rb]; decide) (by rw [rb]; decide)).trans rb
    refine c_k1095 (rs_CC (hC.x f)) (rs_TH t) rfl rfl ra' rb' (fi_rg t (by decide) rfl (k := 2) rfl rb) (fun ρ2 h2 f2 t2 v1 v2 => ?_)
    obtain ⟨er, fs⟩ := FS.ofFQ (by decide +kernel) f2
    subst er
    obtain ⟨k1, k2, k3⟩ := rs_back t (by decide +kernel) fs t2
    refine g h2 (k1.mono (by decide +kernel)) k2 ⟨v1, Int32.toInt_inj.mp v2, fun c hc rc hca => (k3 c hc ?_ 2).1⟩
    unfold rs_r
    rw [if_pos ⟨rc, hca⟩]
  · obtain ⟨⟨f1, t1⟩, rk, w1, w2, u6⟩ := I
    obtain ⟨p1, p2, p3⟩ := φ
    have hp : ρ' 16 = 6 := (f1.2.1 16 (by rw [h16]; decide)).trans h16
    have l16 := (ht.2 16 (by rw [h16]; decide)).1
    have fI : ρ (r_I h) = 8 := (th_rf ht (R := 6) (by decide) rfl h16 (k := 1) rfl (fun z => by cases z)).2
    have fN := (nwr ht h16).1
    have Il := (ht.2 (r_I h) (by rw [fI]; decide)).1
    have Nl := (ht.2 (h_r h 16 0) (by rw [fN]; decide)).1
    have ne16 : (16 : Nat) ≠ r_I h := fun z => by rw [← z, h16] at fI; cases fI
    have eI : r_I h' = r_I h := ((u6 16 l16).2 1).2.2 (fun z => ne16 z.1)
    have eN : h_r h' 16 0 = h_r h 16 0 := ((u6 16 l16).2 0).2.2 (fun z => ne16 z.1)
    have eim := im_fr t1 fs.fq hp (by decide +kernel)
    have oth : ∀ j, j ≠ xk1.toInt.toNat → r_im h2 j = r_im h j := fun j hj => by
      rw [eim]
      unfold r_im
      rw [eI]
      exact ((u6 _ Il).2 j).2.2 (fun z => hj z.2)
    have own : r_im h2 xk1.toInt.toNat = h_r h' (r_I h) xk1.toInt.toNat := by
      rw [eim]
      unfold r_im
      rw [eI]
    have ownn : r_im h2 xk1.toInt.toNat ≠ 0 := by
      rw [own]
      exact th_na t1 rk (by decide)
    have imr : ∀ j, j < 3 → r_im h j ≠ 0 → ρ (r_im h j) = 97 ∧ r_im h j < 16 + h_n h := fun j hj h0 => by
      have c := t_spec ht (by decide) (rfl : c_sp[8]? = some _) fI
      have l3 : 3 ≤ (h_k h (r_I h)).2 := c.2.1.1
      rcases (c.2.2.2 j (.inr (.inr (97, false))) rfl (fun _ => by omega) : t_rf ρ 97 false (r_im h j)) with q | ⟨-, -, q⟩
      · exact absurd q.1 h0
      · have q : ρ (r_im h j) = 97 := q
        exact ⟨q, (ht.2 _ (by rw [q]; decide)).1⟩
    -- the image's own place is no other image's
    have dis : ∀ j, j < 3 → j ≠ xk1.toInt.toNat → r_im h j ≠ 0 → r_im h j ≠ h_r h' (r_I h) xk1.toInt.toNat := fun j hj hjk h0 => by
      by_cases e : h_r h (r_I h) xk1.toInt.toNat = 0
      · have := w2 e
        have := (imr j hj h0).2
        omega
      · rw [(w1 e).1]
        exact n11.2.2.1 j xk1.toInt.toNat hj (by omega) hjk h0
    have hN : u_now h2 = u_now h := by
      have e2 : h_r h2 16 0 = h_r h' 16 0 := (us_nw (D := [(6, 0)]) t1 fs.fq hp (by decide +kernel) (by decide)).1
      unfold u_now
      rw [e2, eN, p2, ((u6 _ Nl).2 2).1]
    refine snd ρ' h2 z f t m1 m2 hN (fun j k hj hk hjk h0 => ?_) (Or.inr ⟨qz, b0, by omega, ownn, ?_, oth, fun j hj hjk h0 => ?_⟩)
    · by_cases e1 : j = xk1.toInt.toNat
      · have e2 : k ≠ xk1.toInt.toNat := fun z => hjk (e1.trans z.symm)
        rw [e1, own, oth k e2]
        by_cases e3 : r_im h k = 0
        · rw [e3]
          exact th_na t1 rk (by decide)
        · exact (dis k hk e2 e3).symm
      · rw [oth j e1] at h0 ⊢
        by_cases e2 : k = xk1.toInt.toNat
        · rw [e2, own]
          exact dis j hj e1 h0
        · rw [oth k e2]
          exact n11.2.2.1 j k hj hk hjk h0
    · unfold u_im
      rw [own, p1]
      unfold u_now
      rw [((u6 _ Nl).2 2).1]
    · have q := imr j hj h0
      unfold u_im
      rw [oth j hjk]
      have e1 := p3 (r_im h j) (by have := f1.1.1; omega) ((f1.2.1 _ (by rw [q.1]; decide)).trans q.1) (dis j hj hjk h0)
      rw [e1, ((u6 _ q.2).2 2).1]
