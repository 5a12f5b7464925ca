-- A PAST FOR A ROW
section
variable {i pc pc' : Nat} {lv : List (Nat × Value)} {st : List Value} {h : MH} {Q : Option Value → MH → Prop}
theorem hI_aa {j : Int32} {o : Nat} (a : m_at i pc = some (.aaload, 1)) (hk : 30 ≤ (h_k h o).1 ∧ (h_k h o).1 < 34) (h0 : 0 ≤ j.toInt) (h1 : j.toInt < (h_k h o).2) (hp : pc + 1 = pc') (g : HJ i pc' lv (.ref (h_r h o j.toInt.toNat) :: st) h Q) : HJ i pc lv (.int j :: .ref o :: st) h Q := by
  subst hp
  refine HJ.ex a (Or.inl rfl) ?_ g
  show (if (30 ≤ (h_k h o).1 ∧ (h_k h o).1 < 34) ∧ m_in j (h_k h o).2 = true then _ else none) = _
  rw [if_pos ⟨hk, m_inZ h0 h1⟩]
  rfl
theorem hI_aast {j : Int32} {o x : Nat} (a : m_at i pc = some (.aastore, 1)) (ho : 16 ≤ o) (hk : 30 ≤ (h_k h o).1 ∧ (h_k h o).1 < 33) (h0 : 0 ≤ j.toInt) (h1 : j.toInt < (h_k h o).2) (hx : 16 ≤ x) (hxk : (h_k h x).1 = m_el (h_k h o).1) (hp : pc + 1 = pc') (g : HJ i pc' lv st (h_sr h o j.toInt.toNat x) Q) : HJ i pc lv (.ref x :: .int j :: .ref o :: st) h Q := by
  subst hp
  refine HJ.ex a (Or.inl rfl) ?_ g
  show (if 16 ≤ o ∧ (30 ≤ (h_k h o).1 ∧ (h_k h o).1 < 33) ∧ m_in j (h_k h o).2 = true ∧ 16 ≤ x ∧ (h_k h x).1 = m_el (h_k h o).1 then _ else none) = _
  rw [if_pos ⟨ho, hk, m_inZ h0 h1, hx, hxk⟩]
  rfl
theorem hI_nn {off : Int} {o t : Nat} (a : m_at i pc = some (.ifnonnull off, 3)) (ht : (pc : Int) + off = (t : Int)) (hp : pc + 3 = pc') (ho : o = 0 ∨ 16 ≤ o) (g1 : o ≠ 0 → HJ i t lv st h Q) (g2 : o = 0 → HJ i pc' lv st h Q) : HJ i pc lv (.ref o :: st) h Q := by
  subst hp
  by_cases e : o = 0
  · refine HJ.ex (pc' := pc + 3) a (Or.inl rfl) ?_ (g2 e)
    show (if o = 0 then m_go (pc + 3) lv st h else if 16 ≤ o then m_tg pc off lv st h else none) = _
    rw [if_pos e]
    rfl
  · refine HJ.ex (pc' := t) a (Or.inl rfl) ?_ (g1 e)
    show (if o = 0 then m_go (pc + 3) lv st h else if 16 ≤ o then m_tg pc off lv st h else none) = _
    rw [if_neg e, if_pos (by omega)]
    unfold m_tg
    rw [ht, if_pos (Int.natCast_nonneg t), Int.toNat_natCast]
end
def w_pf : List (Nat × Nat) := (9, 1001) :: (1000, 1002) :: past_R.map (fun R => (R, 1002))
theorem past_only (j : Nat) (hj : past_R.getD j 0 = 39 ∨ past_R.getD j 0 = 48) : j = 1 := by
  by_cases h : j < 70
  · have := List.all_eq_true.mp (show ((List.range 70).all (fun j => !(Nat.beq (past_R.getD j 0) 39 || Nat.beq (past_R.getD j 0) 48) || Nat.beq j 1)) = true by decide +kernel) j (List.mem_range.mpr h)
    rw [Bool.or_eq_true] at this
    rcases this with z | z
    · rcases hj with e | e <;> (rw [e] at z; cases z)
    · exact Nat.eq_of_beq_eq_true z
  · have e : past_R.getD j 0 = 0 := by
      rw [List.getD_eq_getElem?_getD, List.getElem?_eq_none (show past_R.length ≤ j by have : past_R.length = 70 := rfl; omega)]
      rfl
    rcases hj with q | q <;> (rw [e] at q; cases q)
section
variable {lv : List (Nat × Value)} {Q : Option Value → MH → Prop} {W : List (Nat × Nat)} {ρ : Nat → Nat} {m : Nat} {A : Nat → Nat} {h0 h : MH} {F : Nat → Int} {V : Nat → Nat → Int} {G : Nat → Nat → Int64}
theorem c_pastFor {x1 : Int32} (ht : TH c_sp ρ h) (hm : ρ m = 6) (n1 : t_nd ρ h) (n2 : t_rm ρ h) (e0 : m_lk lv 0 = some (.ref m)) (e1 : m_lk lv 1 = some (.int x1)) (b0 : 0 ≤ x1.toInt) (b3 : x1.toInt ≤ 3) (g : ∀ (ρ' : Nat → Nat) (h' : MH) (p : Nat), FQ ρ ρ' w_pf h h' → TH c_sp ρ' h' → t_nd ρ' h' → t_rm ρ' h' → ρ' p = 29 → p ≠ 0 → Q (some (.ref p)) h') : HJ 41 0 lv [] h Q := by
  have m16 : m = 16 := n2.1.2.2.2.2.2.1 m hm
  subst m16
  have fP : ρ (r_P h) = 9 := (th_rf ht (R := 6) (by decide) rfl hm (k := 2) rfl (fun z => by cases z)).2
  have k16 : (h_k h 16).1 = 9 := (t_spec ht (by decide) (rfl : c_sp[6]? = some _) hm).1
  have cP := t_spec ht (by decide) (rfl : c_sp[9]? = some _) fP
  have kP : (h_k h (r_P h)).1 = 31 := cP.1
  have lP : 4 ≤ (h_k h (r_P h)).2 := cP.2.1.1
  have P16 : 16 ≤ r_P h := cP.2.2.1 rfl
  have Pl : r_P h < 16 + h_n h := (ht.2 _ (by rw [fP]; decide)).1
  have ne16 : (16 : Nat) ≠ r_P h := fun z => by rw [← z, hm] at fP; cases fP
  have el : t_rf ρ 29 false (h_r h (r_P h) x1.toInt.toNat) := cP.2.2.2 x1.toInt.toNat (.inr (.inr (29, false))) rfl (fun _ => by omega)
  have el16 : h_r h (r_P h) x1.toInt.toNat = 0 ∨ 16 ≤ h_r h (r_P h) x1.toInt.toNat := by
    rcases el with q | ⟨-, -, q⟩
    · exact Or.inl q.1
    · exact Or.inr ((t_spec ht (by decide) (rfl : c_sp[29]? = some _) q).2.2.1 rfl)
  refine hI_al (k := 0) rfl e0 rfl ?_
  refine hI_gr rfl rfl rfl k16 rfl ?_
  refine hI_il (k := 1) rfl e1 rfl ?_
  refine hI_aa (o := r_P h) rfl ⟨by rw [kP]; decide, by rw [kP]; decide⟩ b0 (by omega) rfl ?_
  refine hI_nn (t := 22) rfl (by decide) rfl el16 (fun hne => ?_) (fun he => ?_)
  · refine hI_al (k := 0) rfl e0 rfl ?_
    refine hI_gr rfl rfl rfl k16 rfl ?_
    refine hI_il (k := 1) rfl e1 rfl ?_
    refine hI_aa (o := r_P h) rfl ⟨by rw [kP]; decide, by rw [kP]; decide⟩ b0 (by omega) rfl ?_
    refine hI_ra rfl rfl (g ρ h _ (FQ.refl _ _ _) ht n1 n2 ?_ hne)
    rcases el with q | ⟨-, -, q⟩
    · exact absurd q.1 hne
    · exact q
  · refine hI_al (k := 0) rfl e0 rfl ?_
    refine hI_gr rfl rfl rfl k16 rfl ?_
    refine hI_il (k := 1) rfl e1 rfl ?_
    refine hS_new (c := 3) (j := 0) (sx_start (h := h)) rfl rfl (by decide) rfl rfl (fun h1 S1 => ?_)
    have S2 : SX h h1 [((4, 14), [])] 14 := sx_eq S1 (by decide +kernel)
    refine hI_dup rfl rfl rfl ?_
    refine hS_call (j := 42) (q := 0) S2 rfl rfl (by decide +kernel) rfl (by decide) rfl (by decide +kernel) rfl (by show 3 ≤ 8; decide) (by decide +kernel) rfl ?_
    refine c_past S2 (fun h2 S => ?_)
    show HJ 41 21 lv [.ref (16 + h_n h + 0), .int x1, .ref (r_P h)] h2 Q
    have T9 : TH c_sp (nx_rho (16 + h_n h) past_R ρ) h2 := sx_TH ht S past_T
    have Q9 : FQ ρ (nx_rho (16 + h_n h) past_R ρ) w_pf h h2 := sx_FQ ht S (by decide +kernel)
    have fP' : nx_rho (16 + h_n h) past_R ρ (r_P h) = 9 := (nx_old Pl).trans fP
    have c0 := S.2.2 0 _ rfl
    have c1 := S.2.2 1 _ rfl
    have c2 := S.2.2 2 _ rfl
    have c3 := S.2.2 3 _ rfl
    have kP2 : (h_k h2 (r_P h)).1 = 31 ∧ 4 ≤ (h_k h2 (r_P h)).2 := by rw [(S.2.1 _ Pl).1]; exact ⟨kP, lP⟩
    refine hI_aast (o := r_P h) (x := 16 + h_n h + 0) rfl P16 (by rw [kP2.1]; decide) b0 (by have := kP2.2; omega) (by omega) (by rw [c0.1, kP2.1]; rfl) rfl ?_
    have r29 : nx_rho (16 + h_n h) past_R ρ (16 + h_n h + 0) = 29 := nx_new
    have r39 : nx_rho (16 + h_n h) past_R ρ (16 + h_n h + 1) = 39 := nx_new
    have T10 := s_srT (k := x1.toInt.toNat) (x := 16 + h_n h + 0) T9 (rfl : c_sp[9]? = some _) fP' (f := (29, false)) rfl (Or.inr ⟨by omega, by decide, r29⟩)
    have Q10 : FQ (nx_rho (16 + h_n h) past_R ρ) (nx_rho (16 + h_n h) past_R ρ) w_pf h2 (h_sr h2 (r_P h) x1.toInt.toNat (16 + h_n h + 0)) := (FS.ofFR (s_srF fP' (Or.inr List.mem_cons_self))).fq
    generalize hh : h_sr h2 (r_P h) x1.toInt.toNat (16 + h_n h + 0) = h3 at T10 Q10 ⊢
    have s3k : ∀ a, h_k h3 a = h_k h2 a := fun a => by rw [← hh]; rfl
    have s3i : ∀ a j, h_i h3 a j = h_i h2 a j := fun a j => by rw [← hh]; rfl
    have s3n : h_n h3 = h_n h2 := by rw [← hh]; rfl
    have s3z : h_z h3 = h_z h2 := by rw [← hh]; rfl
    have s3r : ∀ a j, ¬ (a = r_P h ∧ j = x1.toInt.toNat) → h_r h3 a j = h_r h2 a j := fun a j hn => by rw [← hh, s_srR, if_neg hn]
    have s30 : h_r h3 (r_P h) x1.toInt.toNat = 16 + h_n h + 0 := by rw [← hh, s_srR, if_pos ⟨rfl, rfl⟩]
    have pk : ∀ a, a < 16 + h_n h → h_k h3 a = h_k h a := fun a ha => (s3k a).trans (S.2.1 a ha).1
    have pi : ∀ a j, a < 16 + h_n h → h_i h3 a j = h_i h a j := fun a j ha => (s3i a j).trans ((S.2.1 a ha).2 j).1
    have pr : ∀ a j, a < 16 + h_n h → ¬ (a = r_P h ∧ j = x1.toInt.toNat) → h_r h3 a j = h_r h a j := fun a j ha hn => (s3r a j hn).trans ((S.2.1 a ha).2 j).2.2
    have q00 : h_r h3 (16 + h_n h + 0) 0 = 16 + h_n h + 1 := (s3r _ _ (fun z => by have := z.1; omega)).trans ((c0.2 0 (by decide)).2 (Or.inl (by decide)))
    have q11 : h_r h3 (16 + h_n h + 1) 1 = 16 + h_n h + 3 := (s3r _ _ (fun z => by have := z.1; omega)).trans ((c1.2 1 (by decide)).2 (Or.inl (by decide)))
    have q10 : h_r h3 (16 + h_n h + 1) 0 = 16 + h_n h + 2 := (s3r _ _ (fun z => by have := z.1; omega)).trans ((c1.2 0 (by decide)).2 (Or.inl (by decide)))
    have i15 : h_i h3 (16 + h_n h + 1) 5 = 0 := (s3i _ _).trans ((c1.2 5 (by decide)).1.resolve_left (by decide))
    have l2 : (h_k h3 (16 + h_n h + 2)).2 = 448 := by rw [s3k, c2.1]
    have l3 : (h_k h3 (16 + h_n h + 3)).2 = 64 := by rw [s3k, c3.1]
    have en : h_n h2 = h_n h + 70 := S.1.1
    have ez : h_z h2 = h_z h + 1697 := S.1.2
    have n4 : t_nd (nx_rho (16 + h_n h) past_R ρ) h3 := fun a ha => by
      by_cases al : a < 16 + h_n h
      · rw [nx_old al] at ha
        obtain ⟨y1, y2⟩ := n1 a ha
        have na : a ≠ r_P h := fun z => by rw [z, fP] at ha; rcases ha with e | e <;> cases e
        have w1 : h_r h a 1 < 16 + h_n h ∧ h_r h a 0 < 16 + h_n h := by
          rcases ha with q | q
          · have u1 := (th_rf ht (R := 39) (by decide) rfl q (k := 1) rfl (fun z => by cases z)).2
            have u0 := (th_rf ht (R := 39) (by decide) rfl q (k := 0) rfl (fun z => by cases z)).2
            exact ⟨(ht.2 _ (by rw [u1]; decide)).1, (ht.2 _ (by rw [u0]; decide)).1⟩
          · have u1 := (th_rf ht (R := 48) (by decide) rfl q (k := 1) rfl (fun z => by cases z)).2
            have u0 := (th_rf ht (R := 48) (by decide) rfl q (k := 0) rfl (fun z => by cases z)).2
            exact ⟨(ht.2 _ (by rw [u1]; decide)).1, (ht.2 _ (by rw [u0]; decide)).1⟩
        rw [pr a 1 al (fun z => na z.1), pr a 0 al (fun z => na z.1), pk _ w1.1, pk _ w1.2, pi a 5 al]
        exact ⟨y1, y2⟩
      · obtain ⟨j, rfl⟩ : ∃ j, a = 16 + h_n h + j := ⟨a - (16 + h_n h), by omega⟩
        rw [nx_new] at ha
        have := past_only j ha
        subst this
        rw [q11, q10, l2, l3, i15]
        decide
    have R4 : t_rm (nx_rho (16 + h_n h) past_R ρ) h3 := rm_past (k9 := x1.toInt.toNat) (d := 70) (z := 1697) (P9 := 16 + h_n h + 0) (N9 := 16 + h_n h + 1) ht (Q9.trans Q10) (by decide +kernel) (by omega) he (by omega) (by omega) (by omega) (by omega) (fun k hk hne => pr _ k Pl (fun z => hne z.2)) s30 (by omega) (by omega) r29 q00 (by omega) r39 (by rw [q11]; omega) (by rw [q11, l3]) (fun a ha => by
      by_cases al : a < 16 + h_n h
      · rw [nx_old al] at ha
        exact Or.inl ha
      · obtain ⟨j, rfl⟩ : ∃ j, a = 16 + h_n h + j := ⟨a - (16 + h_n h), by omega⟩
        rw [nx_new] at ha
        rw [past_only j ha]
        exact Or.inr rfl) n2
    have l16 : 16 < 16 + h_n h := n2.1.1.1
    refine hI_al (k := 0) rfl e0 rfl ?_
    refine hI_gr rfl rfl rfl (by rw [pk 16 l16]; exact k16) rfl ?_
    rw [pr 16 _ l16 (fun z => ne16 z.1)]
    refine hI_il (k := 1) rfl e1 rfl ?_
    refine hI_aa (o := r_P h) rfl (by rw [s3k, kP2.1]; decide) b0 (by rw [s3k]; have := kP2.2; omega) rfl ?_
    rw [s30]
    exact hI_ra rfl rfl (g _ h3 _ (Q9.trans Q10) T10 n4 R4 r29 (by omega))
end
