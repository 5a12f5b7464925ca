-- THE LAW'S CASES THAT ARE GONE ON BY HAND: image and again
theorem t_Wn {W : List (Nat × Nat)} {R : Nat} (e : W.all (fun q => !(Nat.beq q.1 R)) = true) (j : Nat) : ¬ t_W W R j := fun z => by
  rcases z with z | z
  all_goals
    have z1 : (!(Nat.beq R R)) = true := List.all_eq_true.mp e _ z
    rw [Nat.beq_refl] at z1
    cases z1
theorem im_fr {ρ ρ' : Nat → Nat} {W : List (Nat × Nat)} {h h' : MH} (ht : TH c_sp ρ h) (f : FQ ρ ρ' W h h') (h16 : ρ 16 = 6) (hn : d_no [(6, 1), (8, 1001), (8, 1002)] W = true) (j : Nat) : r_im h' j = r_im h j := by
  have l16 := (ht.2 16 (by rw [h16]; decide)).1
  have eI : r_I h' = r_I h := (fq_f f hn (List.mem_of_getElem? (i := 0) rfl) (by decide) h16 l16).2
  have fI : ρ (r_I h) = 8 := (th_rf ht (R := 6) (by decide) rfl h16 (k := 1) rfl (fun z => by cases z)).2
  unfold r_im
  rw [eI]
  exact (fq_e j f hn (List.mem_of_getElem? (i := 1) rfl) (List.mem_of_getElem? (i := 2) rfl) fI (ht.2 _ (by rw [fI]; decide)).1).2
theorem th_na {ρ : Nat → Nat} {h : MH} {y R : Nat} (ht : TH c_sp ρ h) (e : ρ y = R) (hR : R ≠ 0) : y ≠ 0 := fun z => by
  rw [z, ht.1] at e
  exact hR e.symm
-- the law's own row: its elements stay
theorem sc_fr {ρ ρ' : Nat → Nat} {W : List (Nat × Nat)} {h h' : MH} {s : Nat} (ht : TH c_sp ρ h) (f : FQ ρ ρ' W h h') (hs : ρ s = 5) (hn : d_no [(5, 1001), (5, 1002)] W = true) : ρ' s = 5 ∧ h_k h' s = h_k h s ∧ ∀ j, h_i h' s j = h_i h s j := by
  have l := (ht.2 s (by rw [hs]; decide)).1
  exact ⟨(f.2.1 s (by rw [hs]; decide)).trans hs, (f.2.2.2 s l).1, fun j => (fq_e j f hn (List.mem_of_getElem? (i := 0) rfl) (List.mem_of_getElem? (i := 1) rfl) hs l).1⟩
section
variable {Q : Option Value → MH → Prop} {ρ : Nat → Nat} {m : Nat} {lv : List (Nat × Value)} {h : MH}
-- what again writes ahead of its loop, and in all
def w_cpt : List (Nat × Nat) := c_m95.2.1
def w_ag : List (Nat × Nat) := w_cpt ++ c_m96r.2.1
theorem c_again {x1 : Int32} (hC : CCok c_CC ρ) (ht : TH c_sp ρ h) (hm : ρ m = 6) (n1 : c_PT 1 ρ h) (n2 : c_PT 2 ρ h) (e0 : m_lk lv 0 = some (.ref m)) (e1 : m_lk lv 1 = some (.int x1)) (g0 : ∀ x : Int32, x.toInt = 0 → (x1.toInt < 0 ∨ 3 ≤ x1.toInt) ∨ (0 ≤ x1.toInt ∧ x1.toInt < 3 ∧ r_im h x1.toInt.toNat = 0) → Q (some (.int x)) h) (g1 : ∀ (ρ' : Nat → Nat) (h' : MH) (x : Int32), x.toInt = 1 → 0 ≤ x1.toInt → x1.toInt < 3 → r_im h x1.toInt.toNat ≠ 0 → FQ ρ ρ' w_ag h h' → TH c_sp ρ' h' → c_PT 1 ρ' h' → c_PT 2 ρ' h' → Q (some (.int x)) h') : HJ 96 0 lv [] h Q := by
  have m16 : m = 16 := n2.1.2.2.2.2.2.1 m hm
  subst m16
  have fI : ρ (r_I h) = 8 := (th_rf ht (R := 6) (by decide) rfl hm (k := 1) rfl (fun z => by cases z)).2
  have fN : ρ (h_r h 16 0) = 7 := (th_rf ht (R := 6) (by decide) rfl hm (k := 0) rfl (fun z => by cases z)).2
  have k16 : (h_k h 16).1 = 9 := (t_spec ht (by decide) (rfl : c_sp[6]? = some _) hm).1
  have cI := t_spec ht (by decide) (rfl : c_sp[8]? = some _) fI
  have kI : (h_k h (r_I h)).1 = 30 := cI.1
  have lI : 3 ≤ (h_k h (r_I h)).2 := cI.2.1.1
  have bad : (x1.toInt < 0 ∨ 3 ≤ x1.toInt) ∨ (0 ≤ x1.toInt ∧ x1.toInt < 3 ∧ r_im h x1.toInt.toNat = 0) → HJ 96 18 lv [] h Q := fun hb => hM_ic (n := 0) rfl (by decide) rfl (fun x q => hM_rb rfl rfl q (by omega) (by omega) (g0 x q hb))
  refine hI_il (k := 1) rfl e1 rfl ?_
  refine hM_zlt (off := 17) (t := 18) rfl rfl (by decide) rfl (fun c => bad (Or.inl (Or.inl c))) (fun cA => ?_)
  refine hI_il (k := 1) rfl e1 rfl ?_
  refine hM_ic (n := 3) rfl (by decide) rfl (fun x3 q3 => ?_)
  refine hM_cge (off := 12) (t := 18) rfl rfl q3 (by decide) rfl (fun c => bad (Or.inl (Or.inr c))) (fun cB => ?_)
  have el : t_rf ρ 97 false (h_r h (r_I h) x1.toInt.toNat) := cI.2.2.2 x1.toInt.toNat (.inr (.inr (97, false))) rfl (fun _ => by omega)
  have el16 : h_r h (r_I h) x1.toInt.toNat = 0 ∨ 16 ≤ h_r h (r_I h) x1.toInt.toNat := by
    rcases el with q | ⟨-, -, q⟩
    · exact Or.inl q.1
    · exact Or.inr ((t_spec ht (by decide) (rfl : c_sp[97]? = some _) q).2.2.1 rfl)
  refine hI_al (k := 0) rfl e0 rfl ?_
  refine hI_gr rfl rfl rfl k16 rfl ?_
  refine hI_il (k := 1) rfl e1 rfl ?_
  refine hI_aa (o := r_I h) rfl ⟨by rw [kI]; decide, by rw [kI]; decide⟩ cA (by omega) rfl ?_
  refine hI_nn (t := 20) rfl (by decide) rfl el16 (fun hne => ?_) (fun he => bad (Or.inr ⟨cA, cB, he⟩))
  have rI : ρ (h_r h (r_I h) x1.toInt.toNat) = 97 := by
    rcases el with q | ⟨-, -, q⟩
    · exact absurd q.1 hne
    · exact q
  refine hI_al (k := 0) rfl e0 rfl ?_
  refine hI_gr rfl rfl rfl k16 rfl ?_
  refine hI_al (k := 0) rfl e0 rfl ?_
  refine hI_gr rfl rfl rfl k16 rfl ?_
  refine hI_il (k := 1) rfl e1 rfl ?_
  refine hI_aa (o := r_I h) rfl ⟨by rw [kI]; decide, by rw [kI]; decide⟩ cA (by omega) rfl ?_
  refine hM_iv (MX.start (W := []) ht fN) (by decide) rfl rfl (by decide) (as := [.ref (h_r h (r_I h) x1.toInt.toNat)]) (r := []) rfl rfl (by decide +kernel) rfl (by decide +kernel) rfl rfl rfl rfl rfl ?_
  refine HJ.ofV (K := (k_pins 2).map (le_ev (fun _ => 0))) (KA := (List.range 2).map (fun k => if k = 0 then h_r h 16 0 else h_r h (r_I h) x1.toInt.toNat)) c_v95 hC ⟨ht, fun _ => 0, fun k => if k = 0 then h_r h 16 0 else h_r h (r_I h) x1.toInt.toNat, fun q hq => (by cases hq), fun e he => (by cases he), fun q hq => (by cases hq), rfl, rfl, fun q hq => ?_, trivial⟩ (fun t mt => by cases mt) (fun x h2 ρ2 f2 hP => ?_)
  · have hq : q ∈ [((0 : Nat), (Sum.inr (Sum.inr (0, (7, true))) : AT)), (1, Sum.inr (Sum.inr (1, (97, true))))] := hq
    rcases List.mem_cons.mp hq with e | hq
    · rw [e]
      exact ⟨.ref (h_r h 16 0), rfl, rfl, Or.inr ⟨th_na ht fN (by decide), by decide, fN⟩⟩
    · rw [List.mem_singleton.mp hq]
      exact ⟨.ref (h_r h (r_I h) x1.toInt.toNat), rfl, rfl, Or.inr ⟨hne, by decide, rI⟩⟩
  · obtain ⟨P, mP, tP, -⟩ := hP
    obtain ⟨er, fs⟩ := FS.ofFQ (by decide +kernel) f2
    subst er
    have eP := List.mem_singleton.mp mP
    subst eP
    have t2 := tP.1
    cases x with
    | some y =>
      obtain ⟨-, σ9, α9, -, -, -, -, -, -, u7⟩ := tP
      exact u7.elim
    | none =>
      show HJ 96 33 lv [] h2 Q
      refine HJ.ofVa (K := (k_pins 2).map (le_ev (fun _ => x1.toInt))) (KA := (List.range 2).map (fun _ => 16)) c_v96r (hC.x f2) ⟨t2, fun _ => x1.toInt, fun _ => 16, fun q hq => ?_, fun e he => (by cases he), fun q hq => (by cases hq), rfl, rfl, fun q hq => ?_, trivial⟩ (fun t mt => ?_) (fun x h3 ρ3 f3 hP => ?_)
      · have hq : q = (1, ((0 : Int), (2 : Int))) := List.mem_singleton.mp hq
        subst hq
        exact ⟨cA, by show x1.toInt ≤ 2; omega⟩
      · have hq : q ∈ [((0 : Nat), (Sum.inr (Sum.inr (0, (6, true))) : AT)), (1, Sum.inl (le_s 1))] := hq
        rcases List.mem_cons.mp hq with e | hq
        · rw [e]
          exact ⟨.ref 16, e0, rfl, Or.inr ⟨by decide, by decide, (f2.2.1 16 (by rw [hm]; decide)).trans hm⟩⟩
        · rw [List.mem_singleton.mp hq]
          exact ⟨.int x1, e1, x1, rfl, (le_sE (fun _ => x1.toInt) 1).symm⟩
      · have mt : t ∈ [1, 2] := mt
        rcases List.mem_cons.mp mt with e | mt
        · rw [e]; exact c_PTx 1 _ _ _ h h2 ht f2 (by decide +kernel) n1
        · rw [List.mem_singleton.mp mt]; exact c_PTx 2 _ _ _ h h2 ht f2 (by decide +kernel) n2
      · obtain ⟨P, mP, tP, kP⟩ := hP
        have eP := List.mem_singleton.mp mP
        subst eP
        cases x with
        | none =>
          obtain ⟨-, σ9, α9, -, -, -, -, -, -, u7⟩ := tP
          exact u7.elim
        | some y =>
          have t3 := tP.1
          obtain ⟨-, σ9, α9, -, -, -, -, -, -, ⟨⟨z, e1, e2⟩, -⟩⟩ := tP
          subst e1
          have e2 : z.toInt = 0 + 1 := e2
          exact g1 ρ3 h3 z (by omega) cA cB hne ((f2.mono (by decide +kernel)).trans (f3.mono (by decide +kernel))) t3 (kP 1 (by decide)) (kP 2 (by decide))
-- the reference's copy
theorem c_ca {W : List (Nat × Nat)} {A : Nat → Nat} {V : Nat → Nat → Int} {G : Nat → Nat → Int64} {h0 : MH} (hC : CCok c_CC ρ) (um : t_um ρ) (hw : d_sub c_m289.2.1 W = true) (rw_ : p_rw (V 6)) : ca_ok W ρ m A h0 V G (fun _ _ h' V' => p_rw (V' 6)) := fun h F x1 x2 Q' M a0 a1 b0 b1 g => by
  refine HJ.ofV (K := (k_pins 3).map (le_ev (fun k => if k = 1 then x1.toInt else x2.toInt))) (KA := (List.range 3).map (fun _ => m)) c_v289 hC ⟨M.1.1, fun k => if k = 1 then x1.toInt else x2.toInt, fun _ => m, fun q hq => ?_, fun e he => (by cases he), fun q hq => (by cases hq), rfl, rfl, fun q hq => ?_, trivial⟩ (fun t mt => ?_) (fun x h2 ρ2 f2 hP => ?_)
  · have hq : q ∈ [((1 : Nat), ((0 : Int), (3 : Int))), (2, (0, 3))] := hq
    rcases List.mem_cons.mp hq with e | hq
    · rw [e]
      exact ⟨a0, a1⟩
    · rw [List.mem_singleton.mp hq]
      exact ⟨b0, b1⟩
  · have hq : q ∈ [((0 : Nat), (Sum.inr (Sum.inr (0, (49, true))) : AT)), (1, Sum.inl (le_s 1)), (2, Sum.inl (le_s 2))] := hq
    rcases List.mem_cons.mp hq with e | hq
    · rw [e]
      exact ⟨.ref m, rfl, rfl, Or.inr ⟨th_na M.1.1 M.1.2.1 (by decide), by decide, M.1.2.1⟩⟩
    · rcases List.mem_cons.mp hq with e | hq
      · rw [e]
        exact ⟨.int x1, rfl, x1, rfl, (le_sE (fun k => if k = 1 then x1.toInt else x2.toInt) 1).symm⟩
      · rw [List.mem_singleton.mp hq]
        exact ⟨.int x2, rfl, x2, rfl, (le_sE (fun k => if k = 1 then x1.toInt else x2.toInt) 2).symm⟩
  · have mt : t ∈ [7] := mt
    rw [List.mem_singleton.mp mt]
    exact hv_7 M um rw_
  · obtain ⟨P, mP, tP, kP⟩ := hP
    obtain ⟨er, fs⟩ := FS.ofFQ (by decide +kernel) f2
    subst er
    have eP := List.mem_singleton.mp mP
    subst eP
    obtain ⟨F', V', G', M', -, k9⟩ := M.fs (by decide) tP.1 fs hw (by decide +kernel)
    cases x with
    | some y =>
      obtain ⟨-, σ9, α9, -, -, -, -, -, -, u7⟩ := tP
      exact u7.elim
    | none => exact g h2 F' V' G' M' (k9 67 (by decide +kernel) (fun j z => absurd z (t_Wn (by decide +kernel) j))).1 (hv_7i M' (kP 7 (by decide)))
end
-- the cuts gone on by hand, and the one behind every case
def c_hb : CT := (2035, (c_lS, ([1, 2, 7, 10], ([(3, (-3))], 2999))))
def c_h35 : CT := (1989, (c_lS, ([1, 2, 7, 10], ([(3, (-3))], 3000))))
def c_h36 : CT := (2012, (c_lS, ([1, 2, 7, 10], ([(3, (-3))], 3000))))
def hd_l (C : CT) : Bool := Nat.beq C.1 1989 || Nat.beq C.1 2012
theorem hb_mem : c_hb ∈ c_lcuts := List.mem_of_getElem? (i := 38) rfl
def w_mg : List (Nat × Nat) := (49, 0) :: (96, 1001) :: c_m289.2.1
def w_m2 : List (Nat × Nat) := (49, 0) :: c_m289.2.1
theorem t_4 {ρ : Nat → Nat} {h : MH} (a1 : c_PT 1 ρ h) (a2 : c_PT 2 ρ h) (a7 : c_PT 7 ρ h) (a10 : c_PT 10 ρ h) : ∀ t ∈ [1, 2, 7, 10], c_PT t ρ h := fun t mt => by
  rcases List.mem_cons.mp mt with e | mt
  · rw [e]; exact a1
  · rcases List.mem_cons.mp mt with e | mt
    · rw [e]; exact a2
    · rcases List.mem_cons.mp mt with e | mt
      · rw [e]; exact a7
      · rw [List.mem_singleton.mp mt]; exact a10
set_option maxRecDepth 100000 in
theorem case_36 : d_hand c_sp c_CC c_PT 0 c_m0 c_lcuts c_h36 := fun ρ K KA lv h σ α Q hC ht hw hT go => by
  obtain ⟨⟨e0, r0⟩, ⟨e1, r1⟩, ⟨e2, r2⟩, x, e3, qx, x0, x5, xl⟩ := lc_in hw
  have n1 := hT 1 (by decide)
  have n2 := hT 2 (by decide)
  have n7 := hT 7 (by decide)
  have n10 := hT 10 (by decide)
  have fin : ∀ (ρ' : Nat → Nat) (h' : MH), FQ ρ ρ' c_m0.2.1 h h' → TH c_sp ρ' h' → c_PT 1 ρ' h' → c_PT 2 ρ' h' → c_PT 7 ρ' h' → c_PT 10 ρ' h' → HJ 0 2035 lv [] h' Q := fun ρ' h' f t a1 a2 a7 a10 => go c_hb hb_mem lv h' ρ' σ α f t (lc_out hw ht f) (by show 0 ≤ -3 * σ 3 + 0 + 2999; omega) (by show -3 * σ 3 + 0 + 2999 < -3 * σ 3 + 0 + 3000; omega) (t_4 a1 a2 a7 a10)
  show HJ 0 2012 lv [] h Q
  refine hI_al (k := 1) rfl e1 rfl ?_
  refine hL_arg (n := 1) rfl rfl rfl rfl rfl (by decide) (by decide) (by decide) e0 e3 ht r0 x0 xl ?_
  generalize hk : h_i h (α 0) (x.toInt + 1).toNat = xk
  refine hM_iv (MX.start (W := []) ht r1) (by decide) rfl rfl (by decide) (as := [.int xk]) (r := []) rfl rfl (by decide +kernel) rfl (by decide +kernel) rfl rfl rfl rfl rfl ?_
  have snd : ∀ (ρ2 : Nat → Nat) (h2 : MH) (z : Int32), FQ ρ ρ2 w_ag h h2 → TH c_sp ρ2 h2 → c_PT 1 ρ2 h2 → c_PT 2 ρ2 h2 → (z.toInt = 0 ∧ ((xk.toInt < 0 ∨ 3 ≤ xk.toInt) ∨ (0 ≤ xk.toInt ∧ xk.toInt < 3 ∧ r_im h xk.toInt.toNat = 0))) ∨ (z.toInt = 1 ∧ 0 ≤ xk.toInt ∧ xk.toInt < 3 ∧ r_im h xk.toInt.toNat ≠ 0) → HJ 0 2021 lv [.int z] h2 Q := fun ρ2 h2 z f t2 m1 m2 hz => by
    obtain ⟨s1, s2, s3⟩ := sc_fr ht f r0 (by decide +kernel)
    have r2' : ρ2 (α 2) = 49 := (f.2.1 _ (by rw [r2]; decide)).trans r2
    have m7 : c_PT 7 ρ2 h2 := c_PTx 7 _ _ _ h h2 ht f (by decide +kernel) n7
    have m10 : c_PT 10 ρ2 h2 := c_PTx 10 _ _ _ h h2 ht f (by decide +kernel) n10
    have eim := im_fr ht f n10.1 (by decide +kernel)
    refine hI_al (k := 2) rfl e2 rfl ?_
    refine hL_arg (n := 1) rfl rfl rfl rfl rfl (by decide) (by decide) (by decide) e0 e3 t2 s1 x0 (by rw [s2]; exact xl) ?_
    rw [s3, hk]
    refine hM_iv (MX.start (W := []) t2 r2') (by decide) rfl rfl (by decide) (as := [.int xk]) (r := [.int z]) rfl rfl (by decide +kernel) rfl (by decide +kernel) rfl rfl rfl rfl rfl ?_
    have M := MX.start (W := w_m2) t2 r2'
    have k10 := hv_10i M m10
    have endd : ∀ (y : Int32) (h3 : MH) (F' : Nat → Int) (V' : Nat → Nat → Int) (G' : Nat → Nat → Int64), y.toInt = z.toInt → p_rw (V' 6) → MX 49 w_m2 ρ2 (α 2) (h_r h2 (α 2)) h2 h3 F' V' G' → HJ 0 2030 lv [.int y, .int z] h3 Q := fun y h3 F' V' G' qy k7 M3 => by
      refine hM_ceq (off := 5) (t := 2035) rfl rfl qy (by decide) rfl (fun _ => ?_) (fun c => absurd rfl c)
      have f3 := M3.1.2.2.fq
      exact fin ρ2 h3 ((f.mono (by decide +kernel)).trans (f3.mono (by decide +kernel))) M3.1.1 (c_PTx 1 _ _ _ h2 h3 t2 f3 (by decide +kernel) m1) (c_PTx 2 _ _ _ h2 h3 t2 f3 (by decide +kernel) m2) (hv_7 M3 m7.1 k7) (c_PTx 10 _ _ _ h2 h3 t2 f3 (by decide +kernel) m10)
    refine c_magain M rfl rfl rfl (by decide +kernel) (c_ca (hC.x f) m7.1 (by decide +kernel) (hv_7i M m7)) (fun y h3 F' qy hb M3 => endd y h3 F' _ _ ?_ (hv_7i M m7) M3) (fun y h3 F' V' G' qy c0 c2 hne v67 ψ M3 => endd y h3 F' V' G' ?_ ψ M3)
    · rcases hz with ⟨q, -⟩ | ⟨q, c0, c3, hne⟩
      · omega
      · rcases hb with hb | ⟨-, -, hb⟩
        · omega
        · exact absurd ((eim _).symm.trans ((k10 _ (by omega)).mpr hb)) hne
    · rcases hz with ⟨q, hb⟩ | ⟨q, -⟩
      · rcases hb with hb | ⟨-, -, hb⟩
        · omega
        · exact absurd ((k10 _ (by omega)).mp ((eim _).trans hb)) hne
      · omega
  exact c_again hC ht r1 n1 n2 rfl rfl (fun z qz hb => snd ρ h z (FQ.refl _ _ _) ht n1 n2 (Or.inl ⟨qz, hb⟩)) (fun ρ2 h2 z qz c0 c3 hne f t2 m1 m2 => snd ρ2 h2 z f t2 m1 m2 (Or.inr ⟨qz, c0, c3, hne⟩))
set_option maxRecDepth 100000 in
theorem case_35 : d_hand c_sp c_CC c_PT 0 c_m0 c_lcuts c_h35 := fun ρ K KA lv h σ α Q hC ht hw hT go => by
  obtain ⟨⟨e0, r0⟩, ⟨e1, r1⟩, ⟨e2, r2⟩, x, e3, qx, x0, x5, xl⟩ := lc_in hw
  have n1 := hT 1 (by decide)
  have n2 := hT 2 (by decide)
  have n7 := hT 7 (by decide)
  have n10 := hT 10 (by decide)
  have fin : ∀ (ρ' : Nat → Nat) (h' : MH), FQ ρ ρ' c_m0.2.1 h h' → TH c_sp ρ' h' → c_PT 1 ρ' h' → c_PT 2 ρ' h' → c_PT 7 ρ' h' → c_PT 10 ρ' h' → HJ 0 2035 lv [] h' Q := fun ρ' h' f t a1 a2 a7 a10 => go c_hb hb_mem lv h' ρ' σ α f t (lc_out hw ht f) (by show 0 ≤ -3 * σ 3 + 0 + 2999; omega) (by show -3 * σ 3 + 0 + 2999 < -3 * σ 3 + 0 + 3000; omega) (t_4 a1 a2 a7 a10)
  have m16 : α 1 = 16 := n2.1.2.2.2.2.2.1 _ r1
  show HJ 0 1989 lv [] h Q
  refine hI_al (k := 1) rfl e1 rfl ?_
  refine hL_arg (n := 1) rfl rfl rfl rfl rfl (by decide) (by decide) (by decide) e0 e3 ht r0 x0 xl ?_
  generalize hk : h_i h (α 0) (x.toInt + 1).toNat = xk
  refine hM_iv (MX.start (W := []) ht r1) (by decide) rfl rfl (by decide) (as := [.int xk]) (r := []) rfl rfl (by decide +kernel) rfl (by decide +kernel) rfl rfl rfl rfl rfl ?_
  have snd : ∀ (ρ2 : Nat → Nat) (h2 : MH) (z : Int32), FQ ρ ρ2 w_im h h2 → TH c_sp ρ2 h2 → c_PT 1 ρ2 h2 → c_PT 2 ρ2 h2 → ((xk.toInt < 0 ∨ 3 ≤ xk.toInt) ∧ h2 = h ∧ ρ2 = ρ) ∨ (0 ≤ xk.toInt ∧ xk.toInt < 3 ∧ r_im h2 xk.toInt.toNat ≠ 0 ∧ ∀ j, j ≠ xk.toInt.toNat → r_im h2 j = r_im h j) → HJ 0 1998 lv [.int z] h2 Q := fun ρ2 h2 z f t2 m1 m2 hz => by
    obtain ⟨s1, s2, s3⟩ := sc_fr ht f r0 (by decide +kernel)
    have r2' : ρ2 (α 2) = 49 := (f.2.1 _ (by rw [r2]; decide)).trans r2
    have h16 : ρ2 16 = 6 := (f.2.1 16 (by rw [n10.1]; decide)).trans n10.1
    have m7 : c_PT 7 ρ2 h2 := c_PTx 7 _ _ _ h h2 ht f (by decide +kernel) n7
    refine hI_pop rfl rfl rfl ?_
    refine hI_al (k := 2) rfl e2 rfl ?_
    refine hL_arg (n := 1) rfl rfl rfl rfl rfl (by decide) (by decide) (by decide) e0 e3 t2 s1 x0 (by rw [s2]; exact xl) ?_
    rw [s3, hk]
    refine hM_iv (MX.start (W := []) t2 r2') (by decide) rfl rfl (by decide) (as := [.int xk]) (r := []) rfl rfl (by decide +kernel) rfl (by decide +kernel) rfl rfl rfl rfl rfl ?_
    have M := MX.start (W := w_mg) t2 r2'
    -- what the reference keeps ahead of its image
    have k0 : ∀ k, k < 3 → (r_im h k = 0 ↔ (h_i h2 (h_r h2 (α 2) 67) k).toInt = 0) := fun k hk3 => by
      have l2 := (ht.2 (α 2) (by rw [r2]; decide)).1
      have ek : h_i h2 (h_r h2 (α 2) 67) k = h_i h (h_r h (α 2) 67) k := fq_arr f ht (D := [(49, 67), (96, 1001), (96, 1002)]) (by decide +kernel) (by decide) rfl rfl rfl (List.mem_of_getElem? (i := 0) rfl) (by decide) (List.mem_of_getElem? (i := 1) rfl) (List.mem_of_getElem? (i := 2) rfl) (by decide) r2 l2 k
      rw [ek]
      exact n10.2.2 (α 2) r2 k hk3
    have endd : ∀ (y : Int32) (h3 : MH) (F' : Nat → Int) (V' : Nat → Nat → Int) (G' : Nat → Nat → Int64), p_rw (V' 6) → MX 49 w_mg ρ2 (α 2) (h_r h2 (α 2)) h2 h3 F' V' G' → (∀ k, k < 3 → (r_im h2 k = 0 ↔ V' 67 k = 0)) → HJ 0 2008 lv [.int y] h3 Q := fun y h3 F' V' G' k7 M3 k10 => by
      refine hI_pop rfl rfl rfl ?_
      refine hI_go (pc' := 2035) rfl (by decide) ?_
      have f3 := M3.1.2.2.fq
      have eim := im_fr t2 f3 h16 (by decide +kernel)
      exact fin ρ2 h3 ((f.mono (by decide +kernel)).trans (f3.mono (by decide +kernel))) M3.1.1 (c_PTx 1 _ _ _ h2 h3 t2 f3 (by decide +kernel) m1) (c_PTx 2 _ _ _ h2 h3 t2 f3 (by decide +kernel) m2) (hv_7 M3 m7.1 k7) (hv_10 M3 m7.1 h16 (fun k hk3 => by rw [eim]; exact k10 k hk3))
    refine c_mimage M rfl rfl rfl (by decide +kernel) (by decide +kernel) (c_ca (hC.x f) m7.1 (by decide +kernel) (hv_7i M m7)) (fun y h3 F' qy hb M3 => endd y h3 F' _ _ (hv_7i M m7) M3 (fun k hk3 => ?_)) (fun y h1 h3 F' V1 G' qy c0 c2 v67 M1 ψ M3 => endd y h3 F' _ G' ?_ M3 (fun k hk3 => ?_))
    · rcases hz with ⟨-, e, e9⟩ | ⟨c0, c3, -⟩
      · rw [e]
        rw [e] at k0
        exact k0 k hk3
      · omega
    · rw [m_uN _ _ _ _ (by decide)]
      exact ψ
    · rcases hz with ⟨hb, -⟩ | ⟨-, -, d1, d2⟩
      · omega
      · rw [m_uE]
        by_cases ek : k = xk.toInt.toNat
        · rw [ek, m_uE]
          exact ⟨fun z => absurd z d1, fun z => by cases z⟩
        · rw [m_uN _ _ _ _ ek, d2 k ek, v67]
          exact k0 k hk3
  refine c_image (fun _ _ _ _ _ => True) ht r1 n1 n2 rfl rfl (fun ρ' h' a b Q' f t ra rb g => ?_) (fun ρ' h' h2 z b0 b2 qz f t m1 m2 I fs _ => ?_) (fun z qz hb => snd ρ h z (FQ.refl _ _ _) ht n1 n2 (Or.inl ⟨hb, rfl, rfl⟩))
  · refine HJ.ofV (K := (k_pins 2).map (le_ev (fun _ => 0))) (KA := (List.range 2).map (fun k => if k = 0 then a else b)) c_v1095 (hC.x f) ⟨t, fun _ => 0, fun k => if k = 0 then a else b, fun q hq => (by cases hq), fun e he => (by cases he), fun q hq => (by cases hq), rfl, rfl, fun q hq => ?_, trivial⟩ (fun t mt => by cases mt) (fun x h2 ρ2 f2 hP => ?_)
    · have hq : q ∈ [((0 : Nat), (Sum.inr (Sum.inr (0, (97, true))) : AT)), (1, Sum.inr (Sum.inr (1, (7, true))))] := hq
      rcases List.mem_cons.mp hq with e | hq
      · rw [e]
        exact ⟨.ref a, rfl, rfl, Or.inr ⟨th_na t ra (by decide), by decide, ra⟩⟩
      · rw [List.mem_singleton.mp hq]
        exact ⟨.ref b, rfl, rfl, Or.inr ⟨th_na t rb (by decide), by decide, rb⟩⟩
    · obtain ⟨P, mP, tP, -⟩ := hP
      obtain ⟨er, fs⟩ := FS.ofFQ (by decide +kernel) f2
      subst er
      have eP := List.mem_singleton.mp mP
      subst eP
      cases x with
      | none => exact g h2 (fs.mono (by decide +kernel)) tP.1 trivial
      | some y =>
        obtain ⟨-, σ9, α9, -, -, -, -, -, -, u7⟩ := tP
        exact u7.elim
  · obtain ⟨⟨f1, t1⟩, rk, -, -, u6⟩ := I
    have h16' : ρ' 16 = 6 := (f1.2.1 16 (by rw [n10.1]; decide)).trans n10.1
    have l16 := (ht.2 16 (by rw [n10.1]; decide)).1
    have fI : ρ (r_I h) = 8 := (th_rf ht (R := 6) (by decide) rfl n10.1 (k := 1) rfl (fun z => by cases z)).2
    have Il := (ht.2 (r_I h) (by rw [fI]; decide)).1
    have ne16 : (16 : Nat) ≠ r_I h := fun z => by rw [← z, n10.1] at fI; cases fI
    have eI : r_I h' = r_I h := ((u6 16 l16).2 1).2.2 (fun z => ne16 z.1)
    have eim := im_fr t1 fs.fq h16' (by decide +kernel)
    refine snd ρ' h2 z f t m1 m2 (Or.inr ⟨b0, by omega, ?_, fun j hj => ?_⟩)
    · rw [eim]
      unfold r_im
      rw [eI]
      exact fun z => by rw [z, t1.1] at rk; cases rk
    · rw [eim]
      unfold r_im
      rw [eI]
      exact ((u6 _ Il).2 j).2.2 (fun z => hj z.2)
