-- COPIES, CELL BY CELL
section
variable {i pc pc' : Nat} {lv : List (Nat × Value)} {st : List Value} {h : MH} {Q : Option Value → MH → Prop}
theorem cpi_i (h : MH) (a0 a1 n x k : Nat) : h_i (h_cpi h a0 a1 0 0 n) x k = if x = a1 ∧ k < n then h_i h a0 k else h_i h x k := by
  show m_u (h_i h) a1 (fun j => if 0 ≤ j ∧ j < 0 + n then h_i h a0 (0 + (j - 0)) else h_i h a1 j) x k = _
  by_cases e : x = a1
  · subst e
    rw [m_uE]
    by_cases e2 : k < n
    · rw [if_pos ⟨Nat.zero_le _, by omega⟩, if_pos ⟨rfl, e2⟩, Nat.zero_add, Nat.sub_zero]
    · rw [if_neg (fun z => by omega), if_neg (fun z => e2 z.2)]
  · rw [m_uN _ _ _ _ e, if_neg (fun z => e z.1)]
theorem hI_cpb {idx nest a0 a1 N : Nat} {n : Int32} (a : m_at i pc = some (.invokestatic idx, 3)) (hm : m_ml i idx = some (nest, 901)) (h0 : 16 ≤ a0) (h1 : 16 ≤ a1) (n0 : ¬ n < 0) (hn : n.toNatClampNeg = N) (l0 : N ≤ (h_k h a0).2) (l1 : N ≤ (h_k h a1).2) (hc : 1 ≤ m_fr i ∧ m_cat st + 18 ≤ m_lo i ∧ m_cat st ≤ 8) (hk : ((h_k h a0).1 = 20 ∧ (h_k h a1).1 = 20) ∨ ((h_k h a0).1 = 21 ∧ (h_k h a1).1 = 21)) (hp : pc + 3 = pc') (g : HJ i pc' lv st (h_cpi h a0 a1 0 0 N) Q) : HJ i pc lv (.int n :: .int (Int32.ofInt 0) :: .ref a1 :: .int (Int32.ofInt 0) :: .ref a0 :: st) h Q := by
  subst hp hn
  refine HJ.ex a (Or.inl rfl) ?_ g
  have z : (Int32.ofInt 0).toNatClampNeg = 0 := by decide
  show e_call 0 i idx pc lv (.int n :: .int (Int32.ofInt 0) :: .ref a1 :: .int (Int32.ofInt 0) :: .ref a0 :: st) h = _
  unfold e_call
  rw [hm]
  dsimp only
  rw [if_neg (by decide), if_pos rfl, if_pos rfl]
  unfold e_cp
  dsimp only
  rw [if_pos ⟨h0, h1, by decide, by decide, n0, by rw [z, Nat.zero_add]; exact l0, by rw [z, Nat.zero_add]; exact l1, hc⟩, if_pos hk, z]
  rfl
end
theorem ne_r {ρ : Nat → Nat} {x y R1 R2 : Nat} (e1 : ρ x = R1) (e2 : ρ y = R2) (h : R1 ≠ R2) : x ≠ y := fun z => h (by rw [← e1, ← e2, z])
-- a row of acts, as it lies
def ak_ok (h : MH) (c : Nat) : Prop := (h_k h c).1 = 1 ∧ (16 ≤ h_r h c 0 ∧ h_k h (h_r h c 0) = (20, 40)) ∧ 16 ≤ h_r h c 1 ∧ h_k h (h_r h c 1) = (20, 120)
def cp_acts (h : MH) (c d : Nat) (h' : MH) : Prop := (h'.1 = h.1 ∧ (∀ x, h_k h' x = h_k h x) ∧ ∀ x k, h_l h' x k = h_l h x k ∧ h_r h' x k = h_r h x k) ∧ ∀ x k, h_i h' x k = (if x = c ∧ k = 2 then h_i h d 2 else if x = h_r h c 0 ∧ k < 40 then h_i h (h_r h d 0) k else if x = h_r h c 1 ∧ k < 120 then h_i h (h_r h d 1) k else h_i h x k)
theorem r_copyActs {h : MH} {Q : Option Value → MH → Prop} {c d : Nat} (kc : ak_ok h c) (kd : ak_ok h d) (g : ∀ h', cp_acts h c d h' → Q none h') : HJ 40 0 (lv_args 0 [.ref c, .ref d]) [] h Q := by
  obtain ⟨c1, ⟨c2, c3⟩, c4, c5⟩ := kc
  obtain ⟨d1, ⟨d2, d3⟩, d4, d5⟩ := kd
  refine hI_al (k := 0) rfl rfl rfl ?_
  refine hI_al (k := 1) rfl rfl rfl ?_
  refine hI_gi (c := 0) (k := 2) rfl rfl rfl d1 rfl ?_
  refine hI_pi (c := 0) (k := 2) rfl rfl (by decide +kernel) c1 rfl ?_
  refine hI_al (k := 1) rfl rfl rfl ?_
  refine hI_gr (c := 0) (k := 0) rfl rfl rfl d1 rfl ?_
  refine hI_ic (n := 0) rfl rfl ?_
  refine hI_al (k := 0) rfl rfl rfl ?_
  refine hI_gr (c := 0) (k := 0) rfl rfl rfl c1 rfl ?_
  refine hI_ic (n := 0) rfl rfl ?_
  refine hI_bp (n := 40) rfl rfl ?_
  refine hI_cpb (N := 40) (a0 := h_r h d 0) (a1 := h_r h c 0) rfl rfl d2 c2 (by decide) (by decide) (by show 40 ≤ (h_k h (h_r h d 0)).2; rw [d3]; decide) (by show 40 ≤ (h_k h (h_r h c 0)).2; rw [c3]; decide) ⟨by decide +kernel, by decide +kernel, by decide +kernel⟩ (Or.inl ⟨congrArg Prod.fst d3, congrArg Prod.fst c3⟩) rfl ?_
  refine hI_al (k := 1) rfl rfl rfl ?_
  refine hI_gr (c := 0) (k := 1) rfl rfl rfl d1 rfl ?_
  refine hI_ic (n := 0) rfl rfl ?_
  refine hI_al (k := 0) rfl rfl rfl ?_
  refine hI_gr (c := 0) (k := 1) rfl rfl rfl c1 rfl ?_
  refine hI_ic (n := 0) rfl rfl ?_
  refine hI_bp (n := 120) rfl rfl ?_
  refine hI_cpb (N := 120) (a0 := h_r h d 1) (a1 := h_r h c 1) rfl rfl d4 c4 (by decide) (by decide) (by show 120 ≤ (h_k h (h_r h d 1)).2; rw [d5]; decide) (by show 120 ≤ (h_k h (h_r h c 1)).2; rw [c5]; decide) ⟨by decide +kernel, by decide +kernel, by decide +kernel⟩ (Or.inl ⟨congrArg Prod.fst d5, congrArg Prod.fst c5⟩) rfl ?_
  refine hI_rv rfl rfl (g _ ⟨⟨rfl, fun _ => rfl, fun _ _ => ⟨rfl, rfl⟩⟩, fun x k => ?_⟩)
  have n1 : h_r h c 1 ≠ h_r h c 0 := fun z => by rw [z, c3] at c5; cases c5
  have n2 : h_r h c 1 ≠ c := fun z => by
    have e := congrArg Prod.fst c5
    rw [z, c1] at e
    cases e
  have n3 : h_r h c 0 ≠ c := fun z => by
    have e := congrArg Prod.fst c3
    rw [z, c1] at e
    cases e
  have n4 : h_r h d 1 ≠ h_r h c 0 := fun z => by rw [z, c3] at d5; cases d5
  have n5 : h_r h d 1 ≠ c := fun z => by
    have e := congrArg Prod.fst d5
    rw [z, c1] at e
    cases e
  have n6 : h_r h d 0 ≠ c := fun z => by
    have e := congrArg Prod.fst d3
    rw [z, c1] at e
    cases e
  rw [cpi_i, cpi_i, cpi_i, s_siI, s_siI, s_siI]
  by_cases e1 : x = h_r h c 1 ∧ k < 120
  · have e0 := e1.1
    rw [if_pos e1, if_neg (fun z => n4 z.1), if_neg (fun z => n5 z.1), if_neg (fun z => n2 (e0.symm.trans z.1)), if_neg (fun z => n1 (e0.symm.trans z.1)), if_pos e1]
  · rw [if_neg e1]
    by_cases e2 : x = h_r h c 0 ∧ k < 40
    · have e0 := e2.1
      rw [if_pos e2, if_neg (fun z => n6 z.1), if_neg (fun z => n3 (e0.symm.trans z.1)), if_pos e2]
    · rw [if_neg e2]
      by_cases e3 : x = c ∧ k = 2
      · rw [if_pos e3, if_pos e3]
      · rw [if_neg e3, if_neg e3, if_neg e2, if_neg e1]
-- all that is told, copied
def ac_cp (h : MH) (c d : Nat) (h' : MH) : Prop := h_i h' c 2 = h_i h d 2 ∧ (∀ k, k < 40 → h_i h' (h_r h c 0) k = h_i h (h_r h d 0) k) ∧ ∀ k, k < 120 → h_i h' (h_r h c 1) k = h_i h (h_r h d 1) k
def ct_I (h : MH) (a b r : Nat) (h' : MH) : Prop := (h'.1 = h.1 ∧ (∀ x, h_k h' x = h_k h x) ∧ ∀ x k, h_l h' x k = h_l h x k ∧ h_r h' x k = h_r h x k) ∧ (∀ j, j < 600 → h_i h' (h_r h a 0) j = h_i h (h_r h b 0) j) ∧ (∀ K, 2 ≤ K → K < 6 → h_i h' a K = h_i h b K) ∧ (∀ s, s < r → ac_cp h (q_ac h a s) (q_ac h b s) h') ∧ ∀ x, x ≠ a → x ≠ h_r h a 0 → (∀ s, s < r → x ≠ q_ac h a s ∧ x ≠ h_r h (q_ac h a s) 0 ∧ x ≠ h_r h (q_ac h a s) 1) → ∀ k, h_i h' x k = h_i h x k
theorem ak_N {ρ : Nat → Nat} {h : MH} {c : Nat} (ht : TH c_sp ρ h) (hc : ρ c = 12) : ak_ok h c := by
  have k0 := (th_rf ht (R := 12) (by decide) rfl hc (k := 0) rfl (fun z => by cases z)).2
  have k1 := (th_rf ht (R := 12) (by decide) rfl hc (k := 1) rfl (fun z => by cases z)).2
  have c0 := t_spec ht (by decide) (rfl : c_sp[14]? = some _) k0
  have c1 := t_spec ht (by decide) (rfl : c_sp[15]? = some _) k1
  have l0 : 40 ≤ (h_k h (h_r h c 0)).2 ∧ (h_k h (h_r h c 0)).2 ≤ 40 := c0.2.1
  have l1 : 120 ≤ (h_k h (h_r h c 1)).2 ∧ (h_k h (h_r h c 1)).2 ≤ 120 := c1.2.1
  exact ⟨(t_spec ht (by decide) (rfl : c_sp[12]? = some _) hc).1, ⟨c0.2.2.1 rfl, Prod.ext c0.1 (by show (h_k h (h_r h c 0)).2 = 40; omega)⟩, c1.2.2.1 rfl, Prod.ext c1.1 (by show (h_k h (h_r h c 1)).2 = 120; omega)⟩
theorem ak_I {ρ : Nat → Nat} {h : MH} {c : Nat} (ht : TH c_sp ρ h) (hc : ρ c = 100) : ak_ok h c := by
  have k0 := (th_rf ht (R := 100) (by decide) rfl hc (k := 0) rfl (fun z => by cases z)).2
  have k1 := (th_rf ht (R := 100) (by decide) rfl hc (k := 1) rfl (fun z => by cases z)).2
  have c0 := t_spec ht (by decide) (rfl : c_sp[101]? = some _) k0
  have c1 := t_spec ht (by decide) (rfl : c_sp[102]? = some _) k1
  have l0 : 40 ≤ (h_k h (h_r h c 0)).2 ∧ (h_k h (h_r h c 0)).2 ≤ 40 := c0.2.1
  have l1 : 120 ≤ (h_k h (h_r h c 1)).2 ∧ (h_k h (h_r h c 1)).2 ≤ 120 := c1.2.1
  exact ⟨(t_spec ht (by decide) (rfl : c_sp[100]? = some _) hc).1, ⟨c0.2.2.1 rfl, Prod.ext c0.1 (by show (h_k h (h_r h c 0)).2 = 40; omega)⟩, c1.2.2.1 rfl, Prod.ext c1.1 (by show (h_k h (h_r h c 1)).2 = 120; omega)⟩
theorem ak_T {ρ : Nat → Nat} {h : MH} {c : Nat} (ht : TH c_sp ρ h) (hc : ρ c = 103) : ak_ok h c := by
  have k0 := (th_rf ht (R := 103) (by decide) rfl hc (k := 0) rfl (fun z => by cases z)).2
  have k1 := (th_rf ht (R := 103) (by decide) rfl hc (k := 1) rfl (fun z => by cases z)).2
  have c0 := t_spec ht (by decide) (rfl : c_sp[104]? = some _) k0
  have c1 := t_spec ht (by decide) (rfl : c_sp[105]? = some _) k1
  have l0 : 40 ≤ (h_k h (h_r h c 0)).2 ∧ (h_k h (h_r h c 0)).2 ≤ 40 := c0.2.1
  have l1 : 120 ≤ (h_k h (h_r h c 1)).2 ∧ (h_k h (h_r h c 1)).2 ≤ 120 := c1.2.1
  exact ⟨(t_spec ht (by decide) (rfl : c_sp[103]? = some _) hc).1, ⟨c0.2.2.1 rfl, Prod.ext c0.1 (by show (h_k h (h_r h c 0)).2 = 40; omega)⟩, c1.2.2.1 rfl, Prod.ext c1.1 (by show (h_k h (h_r h c 1)).2 = 120; omega)⟩
theorem m_cA {i pc pc' idx nest j o : Nat} {lv : List (Nat × Value)} {as r st0 : List Value} {h : MH} (a : m_at i pc = some (.invokevirtual idx, 3)) (hm : m_ml i idx = some (nest, j)) (hok : k_ok 1 i j = true) (hna : m_na j = as.length) (hst : st0 = as.reverse ++ (.ref o :: r)) (hp : pc + 3 = pc') (hx : Nat.ble (m_cat r) 8 = true ∧ ¬ (m_m j).2.1.cls = "java/lang/String" ∧ m_cnm 0 = (m_m j).2.1.cls) (o16 : 16 ≤ o) (ko : (h_k h o).1 = 1) : m_st i pc lv st0 h = some (.inr (.inr (j, .ref o :: as, r, pc'))) := by
  subst hp hst
  obtain ⟨hc, hns, hcl⟩ := hx
  obtain ⟨⟨k1, k2, k3, k4⟩, k5⟩ := of_decide_eq_true hok
  have e1 : (as.reverse ++ Value.ref o :: r).drop (m_na j) = .ref o :: r := by
    rw [hna, ← List.length_reverse]
    exact List.drop_left
  have e2 : (as.reverse ++ Value.ref o :: r).take (m_na j) = as.reverse := by
    rw [hna, ← List.length_reverse]
    exact List.take_left
  refine (m_stx a (Or.inl rfl)).trans ?_
  show e_call 1 i idx pc lv _ h = _
  unfold e_call
  rw [hm]
  dsimp only
  rw [if_neg k1, if_neg k2, if_neg k3, if_neg k4, if_pos k5, if_neg (by decide), e1, e2]
  dsimp only
  rw [if_pos, List.reverse_reverse]
  refine ⟨by rw [hna, List.length_append, List.length_reverse, List.length_cons]; omega, Nat.le_of_ble_eq_true hc, ?_⟩
  rw [if_neg hns, ko]
  exact ⟨hcl, o16, by decide, by decide⟩
theorem ct_SN {ρ : Nat → Nat} {h h1 h2 : MH} {a b r : Nat} (ht : TH c_sp ρ h) (ha : ρ a = 7) (hb : ρ b = 97) (ow : ow_ne h a a) (hr : r < 4) (I : ct_I h a b r h1) (c : cp_acts h1 (q_ac h a r) (q_ac h b r) h2) : ct_I h a b (r + 1) h2 := by
  obtain ⟨⟨i1, i2, i3⟩, i4, i5, i6, i7⟩ := I
  obtain ⟨⟨c1, c2, c3⟩, c4⟩ := c
  obtain ⟨a0, a1, ao⟩ := td_obN ht ha
  obtain ⟨b0, b1, bo⟩ := td_obI ht hb
  obtain ⟨p1, p2, p3⟩ := ao r hr
  obtain ⟨d1, d2, d3⟩ := bo r hr
  have er : ∀ x k, h_r h1 x k = h_r h x k := fun x k => (i3 x k).2
  have c4 : ∀ x k, h_i h2 x k = (if x = q_ac h a r ∧ k = 2 then h_i h1 (q_ac h b r) 2 else if x = h_r h (q_ac h a r) 0 ∧ k < 40 then h_i h1 (h_r h (q_ac h b r) 0) k else if x = h_r h (q_ac h a r) 1 ∧ k < 120 then h_i h1 (h_r h (q_ac h b r) 1) k else h_i h1 x k) := fun x k => by
    have := c4 x k
    rw [er, er, er, er] at this
    exact this
  -- what is read stands as it was
  have rd : ∀ x, (ρ x = 100 ∨ ρ x = 101 ∨ ρ x = 102) → ∀ k, h_i h1 x k = h_i h x k := fun x hx => by
    refine i7 x ?_ ?_ (fun s hs => ?_)
    · rcases hx with e | e | e <;> exact ne_r e ha (by decide)
    · rcases hx with e | e | e <;> exact ne_r e a0 (by decide)
    · obtain ⟨s1, s2, s3⟩ := ao s (by omega)
      rcases hx with e | e | e <;> exact ⟨ne_r e s1 (by decide), ne_r e s2 (by decide), ne_r e s3 (by decide)⟩
  have rd1 := rd _ (Or.inl d1)
  have rd2 := rd _ (Or.inr (Or.inl d2))
  have rd3 := rd _ (Or.inr (Or.inr d3))
  -- a cell that the step leaves
  have st : ∀ x k, x ≠ q_ac h a r → x ≠ h_r h (q_ac h a r) 0 → x ≠ h_r h (q_ac h a r) 1 → h_i h2 x k = h_i h1 x k := fun x k n1 n2 n3 => by
    rw [c4, if_neg (fun z => n1 z.1), if_neg (fun z => n2 z.1), if_neg (fun z => n3 z.1)]
  refine ⟨⟨c1.trans i1, fun x => (c2 x).trans (i2 x), fun x k => ⟨(c3 x k).1.trans (i3 x k).1, (c3 x k).2.trans (i3 x k).2⟩⟩, fun j hj => ?_, fun K k2 k6 => ?_, fun s hs => ?_, fun x n1 n2 n3 k => ?_⟩
  · rw [st _ _ (ne_r a0 p1 (by decide)) (ne_r a0 p2 (by decide)) (ne_r a0 p3 (by decide))]
    exact i4 j hj
  · rw [st _ _ (ne_r ha p1 (by decide)) (ne_r ha p2 (by decide)) (ne_r ha p3 (by decide))]
    exact i5 K k2 k6
  · by_cases e : s = r
    · subst e
      refine ⟨?_, fun k hk => ?_, fun k hk => ?_⟩
      · rw [c4, if_pos ⟨rfl, rfl⟩]
        exact rd1 2
      · rw [c4, if_neg (fun z => ne_r p2 p1 (by decide) z.1), if_pos ⟨rfl, hk⟩]
        exact rd2 k
      · rw [c4, if_neg (fun z => ne_r p3 p1 (by decide) z.1), if_neg (fun z => ne_r p3 p2 (by decide) z.1), if_pos ⟨rfl, hk⟩]
        exact rd3 k
    · obtain ⟨s1, s2, s3⟩ := ao s (by omega)
      obtain ⟨w1, w2, w3⟩ := ow s r (by omega) hr (Or.inr e)
      obtain ⟨j1, j2, j3⟩ := i6 s (by omega)
      refine ⟨?_, fun k hk => ?_, fun k hk => ?_⟩
      · rw [st _ _ w1 (ne_r s1 p2 (by decide)) (ne_r s1 p3 (by decide))]
        exact j1
      · rw [st _ _ (ne_r s2 p1 (by decide)) w2 (ne_r s2 p3 (by decide))]
        exact j2 k hk
      · rw [st _ _ (ne_r s3 p1 (by decide)) (ne_r s3 p2 (by decide)) w3]
        exact j3 k hk
  · obtain ⟨m1, m2, m3⟩ := n3 r (by omega)
    rw [st _ _ m1 m2 m3]
    exact i7 x n1 n2 (fun s hs => n3 s (by omega)) k
theorem r_toldN {ρ : Nat → Nat} {h : MH} {Q : Option Value → MH → Prop} {a b : Nat} (ht : TH c_sp ρ h) (ha : ρ a = 7) (hb : ρ b = 97) (ow : ow_ne h a a) (g : ∀ h', ct_I h a b 4 h' → Q none h') : HJ 95 0 (lv_args 0 [.ref a, .ref b]) [] h Q := by
  obtain ⟨a0, a1, ao⟩ := td_obN ht ha
  obtain ⟨b0, b1, bo⟩ := td_obI ht hb
  have ka : (h_k h a).1 = 7 := (t_spec ht (by decide) (rfl : c_sp[7]? = some _) ha).1
  have kb : (h_k h b).1 = 7 := (t_spec ht (by decide) (rfl : c_sp[97]? = some _) hb).1
  have ca := t_spec ht (by decide) (rfl : c_sp[13]? = some _) a0
  have cb := t_spec ht (by decide) (rfl : c_sp[99]? = some _) b0
  have la : 600 ≤ (h_k h (h_r h a 0)).2 := ca.2.1.1
  have lb : 600 ≤ (h_k h (h_r h b 0)).2 := cb.2.1.1
  have ra := t_spec ht (by decide) (rfl : c_sp[10]? = some _) a1
  have rb := t_spec ht (by decide) (rfl : c_sp[98]? = some _) b1
  have xa : (h_k h (h_r h a 1)).1 = 32 := ra.1
  have xb : (h_k h (h_r h b 1)).1 = 32 := rb.1
  have ya : 4 ≤ (h_k h (h_r h a 1)).2 := ra.2.1.1
  have yb : 4 ≤ (h_k h (h_r h b 1)).2 := rb.2.1.1
  refine hI_al (k := 1) rfl rfl rfl ?_
  refine hI_gr (c := 6) (k := 0) rfl rfl rfl kb rfl ?_
  refine hI_ic (n := 0) rfl rfl ?_
  refine hI_al (k := 0) rfl rfl rfl ?_
  refine hI_gr (c := 6) (k := 0) rfl rfl rfl ka rfl ?_
  refine hI_ic (n := 0) rfl rfl ?_
  refine hI_sp (n := 600) rfl rfl ?_
  refine hI_cpb (N := 600) (a0 := h_r h b 0) (a1 := h_r h a 0) rfl rfl (cb.2.2.1 rfl) (ca.2.2.1 rfl) (by decide) (by decide) lb la ⟨by decide +kernel, by decide +kernel, by decide +kernel⟩ (Or.inr ⟨cb.1, ca.1⟩) rfl ?_
  refine hI_al (k := 0) rfl rfl rfl ?_
  refine hI_al (k := 1) rfl rfl rfl ?_
  refine hI_gi (c := 6) (k := 2) rfl rfl rfl kb rfl ?_
  refine hI_pi (c := 6) (k := 2) rfl rfl (by decide +kernel) ka rfl ?_
  refine hI_al (k := 0) rfl rfl rfl ?_
  refine hI_al (k := 1) rfl rfl rfl ?_
  refine hI_gi (c := 6) (k := 3) rfl rfl rfl kb rfl ?_
  refine hI_pi (c := 6) (k := 3) rfl rfl (by decide +kernel) ka rfl ?_
  refine hI_al (k := 0) rfl rfl rfl ?_
  refine hI_al (k := 1) rfl rfl rfl ?_
  refine hI_gi (c := 6) (k := 4) rfl rfl rfl kb rfl ?_
  refine hI_pi (c := 6) (k := 4) rfl rfl (by decide +kernel) ka rfl ?_
  refine hI_al (k := 0) rfl rfl rfl ?_
  refine hI_al (k := 1) rfl rfl rfl ?_
  refine hI_gi (c := 6) (k := 5) rfl rfl rfl kb rfl ?_
  refine hI_pi (c := 6) (k := 5) rfl rfl (by decide +kernel) ka rfl ?_
  refine hM_ic (n := 0) rfl (by decide) rfl (fun x0 q0 => ?_)
  refine hM_si (k := 2) rfl (by decide +kernel) rfl (fun lv1 e2 u => ?_)
  have e0 := u 0 _ (by decide) (Or.inl rfl) (show m_lk (lv_args 0 [.ref a, .ref b]) 0 = some (.ref a) from rfl)
  have e1 := u 1 _ (by decide) (Or.inl rfl) (show m_lk (lv_args 0 [.ref a, .ref b]) 1 = some (.ref b) from rfl)
  have nb : b ≠ a := ne_r hb ha (by decide)
  have n1 : b ≠ h_r h a 0 := ne_r hb a0 (by decide)
  have n2 : a ≠ h_r h a 0 := ne_r ha a0 (by decide)
  -- the loop
  have loop : ∀ (d r : Nat) (lv : List (Nat × Value)) (h1 : MH) (xr : Int32), r + d = 4 → xr.toInt = (r : Int) → ct_I h a b r h1 → m_lk lv 0 = some (.ref a) → m_lk lv 1 = some (.ref b) → m_lk lv 2 = some (.int xr) → HJ 95 50 lv [] h1 Q := by
    intro d
    induction d with
    | zero =>
      intro r lv h1 xr hd qr I e0 e1 e2
      have r4 : r = 4 := by omega
      subst r4
      refine hI_il (k := 2) rfl e2 rfl ?_
      refine hM_ic (n := 4) rfl (by decide) rfl (fun x4 q4 => ?_)
      refine hM_cge (t := 76) rfl qr q4 (by decide) rfl (fun _ => ?_) (fun c => absurd c (by decide))
      exact hI_rv rfl rfl (g h1 I)
    | succ d ih =>
      intro r lv h1 xr hd qr I e0 e1 e2
      have hr : r < 4 := by omega
      obtain ⟨j1, j2, j3⟩ := id I.1
      have er : ∀ x k, h_r h1 x k = h_r h x k := fun x k => (j3 x k).2
      refine hI_il (k := 2) rfl e2 rfl ?_
      refine hM_ic (n := 4) rfl (by decide) rfl (fun x4 q4 => ?_)
      refine hM_cge (t := 76) rfl qr q4 (by decide) rfl (fun c => by omega) (fun _ => ?_)
      refine hI_al (k := 0) rfl e0 rfl ?_
      refine hI_gr (c := 6) (k := 1) rfl rfl rfl (by rw [j2]; exact ka) rfl ?_
      refine hI_il (k := 2) rfl e2 rfl ?_
      refine hI_aa rfl (by rw [er, j2, xa]; decide) (by omega) (by rw [er, j2]; omega) rfl ?_
      refine hI_al (k := 1) rfl e1 rfl ?_
      refine hI_gr (c := 6) (k := 1) rfl rfl rfl (by rw [j2]; exact kb) rfl ?_
      refine hI_il (k := 2) rfl e2 rfl ?_
      refine hI_aa rfl (by rw [er, j2, xb]; decide) (by omega) (by rw [er, j2]; omega) rfl ?_
      have hx : xr.toInt.toNat = r := by omega
      rw [er, er, er, er, hx]
      show HJ 95 67 lv [.ref (q_ac h b r), .ref (q_ac h a r)] h1 Q
      obtain ⟨p1, -, -⟩ := ao r hr
      obtain ⟨d1, -, -⟩ := bo r hr
      have kp := ak_N ht p1
      have kd := ak_I ht d1
      have mv : ∀ {c : Nat}, ak_ok h c → ak_ok h1 c := fun {c} k => by
        unfold ak_ok
        rw [er, er, j2, j2, j2]
        exact k
      refine HJ.call (j := 40) (as := [.ref (q_ac h a r), .ref (q_ac h b r)]) (rr := []) (pc' := 70) ?_ (by show 2 ≤ m_lc 40; decide +kernel) ?_
      · have hl := (ht.2 _ (by rw [p1]; decide)).1
        have c16 : 16 ≤ q_ac h a r := (t_spec ht (by decide) (rfl : c_sp[12]? = some _) p1).2.2.1 rfl
        exact m_cA rfl rfl (by decide +kernel) rfl rfl rfl ⟨by decide +kernel, by decide +kernel, by decide +kernel⟩ c16 (by rw [j2]; exact kp.1)
      · refine r_copyActs (mv kp) (mv kd) (fun h2 c => ?_)
        show HJ 95 70 lv [] h2 Q
        refine hM_inc (k := 2) (z := 1) rfl e2 qr (by decide) (by omega) (by omega) (by decide +kernel) rfl (fun lv2 x2 q2 e2' u2 => ?_)
        have e0' := u2 0 _ (by decide) (Or.inl rfl) e0
        have e1' := u2 1 _ (by decide) (Or.inl rfl) e1
        refine hI_go (pc' := 50) (off := (-23)) rfl (by decide) ?_
        exact ih (r + 1) lv2 h2 x2 (by omega) (by omega) (ct_SN ht ha hb ow hr I c) e0' e1' e2'
  refine loop 4 0 lv1 _ x0 rfl q0 ⟨⟨rfl, fun _ => rfl, fun _ _ => ⟨rfl, rfl⟩⟩, fun j hj => ?_, fun K k2 k6 => ?_, fun s hs => absurd hs (Nat.not_lt_zero s), fun x m1 m2 _ k => ?_⟩ e0 e1 e2
  · rw [s_siI, if_neg (fun z => n2 z.1.symm), s_siI, if_neg (fun z => n2 z.1.symm), s_siI, if_neg (fun z => n2 z.1.symm), s_siI, if_neg (fun z => n2 z.1.symm), cpi_i, if_pos ⟨rfl, hj⟩]
  · have rb : ∀ k, h_i (h_cpi h (h_r h b 0) (h_r h a 0) 0 0 600) b k = h_i h b k := fun k => by rw [cpi_i, if_neg (fun z => n1 z.1)]
    rcases (show K = 2 ∨ K = 3 ∨ K = 4 ∨ K = 5 by omega) with rfl | rfl | rfl | rfl
    · rw [s_siI, if_neg (fun z => by omega), s_siI, if_neg (fun z => by omega), s_siI, if_neg (fun z => by omega), s_siI, if_pos ⟨rfl, rfl⟩]
      exact rb 2
    · rw [s_siI, if_neg (fun z => by omega), s_siI, if_neg (fun z => by omega), s_siI, if_pos ⟨rfl, rfl⟩, s_siI, if_neg (fun z => nb z.1)]
      exact rb 3
    · rw [s_siI, if_neg (fun z => by omega), s_siI, if_pos ⟨rfl, rfl⟩, s_siI, if_neg (fun z => nb z.1), s_siI, if_neg (fun z => nb z.1)]
      exact rb 4
    · rw [s_siI, if_pos ⟨rfl, rfl⟩, s_siI, if_neg (fun z => nb z.1), s_siI, if_neg (fun z => nb z.1), s_siI, if_neg (fun z => nb z.1)]
      exact rb 5
  · rw [s_siI, if_neg (fun z => m1 z.1), s_siI, if_neg (fun z => m1 z.1), s_siI, if_neg (fun z => m1 z.1), s_siI, if_neg (fun z => m1 z.1), cpi_i, if_neg (fun z => m2 z.1)]
theorem ct_SI {ρ : Nat → Nat} {h h1 h2 : MH} {a b r : Nat} (ht : TH c_sp ρ h) (ha : ρ a = 97) (hb : ρ b = 7) (ow : ow_ne h a a) (hr : r < 4) (I : ct_I h a b r h1) (c : cp_acts h1 (q_ac h a r) (q_ac h b r) h2) : ct_I h a b (r + 1) h2 := by
  obtain ⟨⟨i1, i2, i3⟩, i4, i5, i6, i7⟩ := I
  obtain ⟨⟨c1, c2, c3⟩, c4⟩ := c
  obtain ⟨a0, a1, ao⟩ := td_obI ht ha
  obtain ⟨b0, b1, bo⟩ := td_obN ht hb
  obtain ⟨p1, p2, p3⟩ := ao r hr
  obtain ⟨d1, d2, d3⟩ := bo r hr
  have er : ∀ x k, h_r h1 x k = h_r h x k := fun x k => (i3 x k).2
  have c4 : ∀ x k, h_i h2 x k = (if x = q_ac h a r ∧ k = 2 then h_i h1 (q_ac h b r) 2 else if x = h_r h (q_ac h a r) 0 ∧ k < 40 then h_i h1 (h_r h (q_ac h b r) 0) k else if x = h_r h (q_ac h a r) 1 ∧ k < 120 then h_i h1 (h_r h (q_ac h b r) 1) k else h_i h1 x k) := fun x k => by
    have := c4 x k
    rw [er, er, er, er] at this
    exact this
  -- what is read stands as it was
  have rd : ∀ x, (ρ x = 12 ∨ ρ x = 14 ∨ ρ x = 15) → ∀ k, h_i h1 x k = h_i h x k := fun x hx => by
    refine i7 x ?_ ?_ (fun s hs => ?_)
    · rcases hx with e | e | e <;> exact ne_r e ha (by decide)
    · rcases hx with e | e | e <;> exact ne_r e a0 (by decide)
    · obtain ⟨s1, s2, s3⟩ := ao s (by omega)
      rcases hx with e | e | e <;> exact ⟨ne_r e s1 (by decide), ne_r e s2 (by decide), ne_r e s3 (by decide)⟩
  have rd1 := rd _ (Or.inl d1)
  have rd2 := rd _ (Or.inr (Or.inl d2))
  have rd3 := rd _ (Or.inr (Or.inr d3))
  -- a cell that the step leaves
  have st : ∀ x k, x ≠ q_ac h a r → x ≠ h_r h (q_ac h a r) 0 → x ≠ h_r h (q_ac h a r) 1 → h_i h2 x k = h_i h1 x k := fun x k n1 n2 n3 => by
    rw [c4, if_neg (fun z => n1 z.1), if_neg (fun z => n2 z.1), if_neg (fun z => n3 z.1)]
  refine ⟨⟨c1.trans i1, fun x => (c2 x).trans (i2 x), fun x k => ⟨(c3 x k).1.trans (i3 x k).1, (c3 x k).2.trans (i3 x k).2⟩⟩, fun j hj => ?_, fun K k2 k6 => ?_, fun s hs => ?_, fun x n1 n2 n3 k => ?_⟩
  · rw [st _ _ (ne_r a0 p1 (by decide)) (ne_r a0 p2 (by decide)) (ne_r a0 p3 (by decide))]
    exact i4 j hj
  · rw [st _ _ (ne_r ha p1 (by decide)) (ne_r ha p2 (by decide)) (ne_r ha p3 (by decide))]
    exact i5 K k2 k6
  · by_cases e : s = r
    · subst e
      refine ⟨?_, fun k hk => ?_, fun k hk => ?_⟩
      · rw [c4, if_pos ⟨rfl, rfl⟩]
        exact rd1 2
      · rw [c4, if_neg (fun z => ne_r p2 p1 (by decide) z.1), if_pos ⟨rfl, hk⟩]
        exact rd2 k
      · rw [c4, if_neg (fun z => ne_r p3 p1 (by decide) z.1), if_neg (fun z => ne_r p3 p2 (by decide) z.1), if_pos ⟨rfl, hk⟩]
        exact rd3 k
    · obtain ⟨s1, s2, s3⟩ := ao s (by omega)
      obtain ⟨w1, w2, w3⟩ := ow s r (by omega) hr (Or.inr e)
      obtain ⟨j1, j2, j3⟩ := i6 s (by omega)
      refine ⟨?_, fun k hk => ?_, fun k hk => ?_⟩
      · rw [st _ _ w1 (ne_r s1 p2 (by decide)) (ne_r s1 p3 (by decide))]
        exact j1
      · rw [st _ _ (ne_r s2 p1 (by decide)) w2 (ne_r s2 p3 (by decide))]
        exact j2 k hk
      · rw [st _ _ (ne_r s3 p1 (by decide)) (ne_r s3 p2 (by decide)) w3]
        exact j3 k hk
  · obtain ⟨m1, m2, m3⟩ := n3 r (by omega)
    rw [st _ _ m1 m2 m3]
    exact i7 x n1 n2 (fun s hs => n3 s (by omega)) k
theorem r_toldI {ρ : Nat → Nat} {h : MH} {Q : Option Value → MH → Prop} {a b : Nat} (ht : TH c_sp ρ h) (ha : ρ a = 97) (hb : ρ b = 7) (ow : ow_ne h a a) (g : ∀ h', ct_I h a b 4 h' → Q none h') : HJ 95 0 (lv_args 0 [.ref a, .ref b]) [] h Q := by
  obtain ⟨a0, a1, ao⟩ := td_obI ht ha
  obtain ⟨b0, b1, bo⟩ := td_obN ht hb
  have ka : (h_k h a).1 = 7 := (t_spec ht (by decide) (rfl : c_sp[97]? = some _) ha).1
  have kb : (h_k h b).1 = 7 := (t_spec ht (by decide) (rfl : c_sp[7]? = some _) hb).1
  have ca := t_spec ht (by decide) (rfl : c_sp[99]? = some _) a0
  have cb := t_spec ht (by decide) (rfl : c_sp[13]? = some _) b0
  have la : 600 ≤ (h_k h (h_r h a 0)).2 := ca.2.1.1
  have lb : 600 ≤ (h_k h (h_r h b 0)).2 := cb.2.1.1
  have ra := t_spec ht (by decide) (rfl : c_sp[98]? = some _) a1
  have rb := t_spec ht (by decide) (rfl : c_sp[10]? = some _) b1
  have xa : (h_k h (h_r h a 1)).1 = 32 := ra.1
  have xb : (h_k h (h_r h b 1)).1 = 32 := rb.1
  have ya : 4 ≤ (h_k h (h_r h a 1)).2 := ra.2.1.1
  have yb : 4 ≤ (h_k h (h_r h b 1)).2 := rb.2.1.1
  refine hI_al (k := 1) rfl rfl rfl ?_
  refine hI_gr (c := 6) (k := 0) rfl rfl rfl kb rfl ?_
  refine hI_ic (n := 0) rfl rfl ?_
  refine hI_al (k := 0) rfl rfl rfl ?_
  refine hI_gr (c := 6) (k := 0) rfl rfl rfl ka rfl ?_
  refine hI_ic (n := 0) rfl rfl ?_
  refine hI_sp (n := 600) rfl rfl ?_
  refine hI_cpb (N := 600) (a0 := h_r h b 0) (a1 := h_r h a 0) rfl rfl (cb.2.2.1 rfl) (ca.2.2.1 rfl) (by decide) (by decide) lb la ⟨by decide +kernel, by decide +kernel, by decide +kernel⟩ (Or.inr ⟨cb.1, ca.1⟩) rfl ?_
  refine hI_al (k := 0) rfl rfl rfl ?_
  refine hI_al (k := 1) rfl rfl rfl ?_
  refine hI_gi (c := 6) (k := 2) rfl rfl rfl kb rfl ?_
  refine hI_pi (c := 6) (k := 2) rfl rfl (by decide +kernel) ka rfl ?_
  refine hI_al (k := 0) rfl rfl rfl ?_
  refine hI_al (k := 1) rfl rfl rfl ?_
  refine hI_gi (c := 6) (k := 3) rfl rfl rfl kb rfl ?_
  refine hI_pi (c := 6) (k := 3) rfl rfl (by decide +kernel) ka rfl ?_
  refine hI_al (k := 0) rfl rfl rfl ?_
  refine hI_al (k := 1) rfl rfl rfl ?_
  refine hI_gi (c := 6) (k := 4) rfl rfl rfl kb rfl ?_
  refine hI_pi (c := 6) (k := 4) rfl rfl (by decide +kernel) ka rfl ?_
  refine hI_al (k := 0) rfl rfl rfl ?_
  refine hI_al (k := 1) rfl rfl rfl ?_
  refine hI_gi (c := 6) (k := 5) rfl rfl rfl kb rfl ?_
  refine hI_pi (c := 6) (k := 5) rfl rfl (by decide +kernel) ka rfl ?_
  refine hM_ic (n := 0) rfl (by decide) rfl (fun x0 q0 => ?_)
  refine hM_si (k := 2) rfl (by decide +kernel) rfl (fun lv1 e2 u => ?_)
  have e0 := u 0 _ (by decide) (Or.inl rfl) (show m_lk (lv_args 0 [.ref a, .ref b]) 0 = some (.ref a) from rfl)
  have e1 := u 1 _ (by decide) (Or.inl rfl) (show m_lk (lv_args 0 [.ref a, .ref b]) 1 = some (.ref b) from rfl)
  have nb : b ≠ a := ne_r hb ha (by decide)
  have n1 : b ≠ h_r h a 0 := ne_r hb a0 (by decide)
  have n2 : a ≠ h_r h a 0 := ne_r ha a0 (by decide)
  -- the loop
  have loop : ∀ (d r : Nat) (lv : List (Nat × Value)) (h1 : MH) (xr : Int32), r + d = 4 → xr.toInt = (r : Int) → ct_I h a b r h1 → m_lk lv 0 = some (.ref a) → m_lk lv 1 = some (.ref b) → m_lk lv 2 = some (.int xr) → HJ 95 50 lv [] h1 Q := by
    intro d
    induction d with
    | zero =>
      intro r lv h1 xr hd qr I e0 e1 e2
      have r4 : r = 4 := by omega
      subst r4
      refine hI_il (k := 2) rfl e2 rfl ?_
      refine hM_ic (n := 4) rfl (by decide) rfl (fun x4 q4 => ?_)
      refine hM_cge (t := 76) rfl qr q4 (by decide) rfl (fun _ => ?_) (fun c => absurd c (by decide))
      exact hI_rv rfl rfl (g h1 I)
    | succ d ih =>
      intro r lv h1 xr hd qr I e0 e1 e2
      have hr : r < 4 := by omega
      obtain ⟨j1, j2, j3⟩ := id I.1
      have er : ∀ x k, h_r h1 x k = h_r h x k := fun x k => (j3 x k).2
      refine hI_il (k := 2) rfl e2 rfl ?_
      refine hM_ic (n := 4) rfl (by decide) rfl (fun x4 q4 => ?_)
      refine hM_cge (t := 76) rfl qr q4 (by decide) rfl (fun c => by omega) (fun _ => ?_)
      refine hI_al (k := 0) rfl e0 rfl ?_
      refine hI_gr (c := 6) (k := 1) rfl rfl rfl (by rw [j2]; exact ka) rfl ?_
      refine hI_il (k := 2) rfl e2 rfl ?_
      refine hI_aa rfl (by rw [er, j2, xa]; decide) (by omega) (by rw [er, j2]; omega) rfl ?_
      refine hI_al (k := 1) rfl e1 rfl ?_
      refine hI_gr (c := 6) (k := 1) rfl rfl rfl (by rw [j2]; exact kb) rfl ?_
      refine hI_il (k := 2) rfl e2 rfl ?_
      refine hI_aa rfl (by rw [er, j2, xb]; decide) (by omega) (by rw [er, j2]; omega) rfl ?_
      have hx : xr.toInt.toNat = r := by omega
      rw [er, er, er, er, hx]
      show HJ 95 67 lv [.ref (q_ac h b r), .ref (q_ac h a r)] h1 Q
      obtain ⟨p1, -, -⟩ := ao r hr
      obtain ⟨d1, -, -⟩ := bo r hr
      have kp := ak_I ht p1
      have kd := ak_N ht d1
      have mv : ∀ {c : Nat}, ak_ok h c → ak_ok h1 c := fun {c} k => by
        unfold ak_ok
        rw [er, er, j2, j2, j2]
        exact k
      refine HJ.call (j := 40) (as := [.ref (q_ac h a r), .ref (q_ac h b r)]) (rr := []) (pc' := 70) ?_ (by show 2 ≤ m_lc 40; decide +kernel) ?_
      · have hl := (ht.2 _ (by rw [p1]; decide)).1
        have c16 : 16 ≤ q_ac h a r := (t_spec ht (by decide) (rfl : c_sp[100]? = some _) p1).2.2.1 rfl
        exact m_cA rfl rfl (by decide +kernel) rfl rfl rfl ⟨by decide +kernel, by decide +kernel, by decide +kernel⟩ c16 (by rw [j2]; exact kp.1)
      · refine r_copyActs (mv kp) (mv kd) (fun h2 c => ?_)
        show HJ 95 70 lv [] h2 Q
        refine hM_inc (k := 2) (z := 1) rfl e2 qr (by decide) (by omega) (by omega) (by decide +kernel) rfl (fun lv2 x2 q2 e2' u2 => ?_)
        have e0' := u2 0 _ (by decide) (Or.inl rfl) e0
        have e1' := u2 1 _ (by decide) (Or.inl rfl) e1
        refine hI_go (pc' := 50) (off := (-23)) rfl (by decide) ?_
        exact ih (r + 1) lv2 h2 x2 (by omega) (by omega) (ct_SI ht ha hb ow hr I c) e0' e1' e2'
  refine loop 4 0 lv1 _ x0 rfl q0 ⟨⟨rfl, fun _ => rfl, fun _ _ => ⟨rfl, rfl⟩⟩, fun j hj => ?_, fun K k2 k6 => ?_, fun s hs => absurd hs (Nat.not_lt_zero s), fun x m1 m2 _ k => ?_⟩ e0 e1 e2
  · rw [s_siI, if_neg (fun z => n2 z.1.symm), s_siI, if_neg (fun z => n2 z.1.symm), s_siI, if_neg (fun z => n2 z.1.symm), s_siI, if_neg (fun z => n2 z.1.symm), cpi_i, if_pos ⟨rfl, hj⟩]
  · have rb : ∀ k, h_i (h_cpi h (h_r h b 0) (h_r h a 0) 0 0 600) b k = h_i h b k := fun k => by rw [cpi_i, if_neg (fun z => n1 z.1)]
    rcases (show K = 2 ∨ K = 3 ∨ K = 4 ∨ K = 5 by omega) with rfl | rfl | rfl | rfl
    · rw [s_siI, if_neg (fun z => by omega), s_siI, if_neg (fun z => by omega), s_siI, if_neg (fun z => by omega), s_siI, if_pos ⟨rfl, rfl⟩]
      exact rb 2
    · rw [s_siI, if_neg (fun z => by omega), s_siI, if_neg (fun z => by omega), s_siI, if_pos ⟨rfl, rfl⟩, s_siI, if_neg (fun z => nb z.1)]
      exact rb 3
    · rw [s_siI, if_neg (fun z => by omega), s_siI, if_pos ⟨rfl, rfl⟩, s_siI, if_neg (fun z => nb z.1), s_siI, if_neg (fun z => nb z.1)]
      exact rb 4
    · rw [s_siI, if_pos ⟨rfl, rfl⟩, s_siI, if_neg (fun z => nb z.1), s_siI, if_neg (fun z => nb z.1), s_siI, if_neg (fun z => nb z.1)]
      exact rb 5
  · rw [s_siI, if_neg (fun z => m1 z.1), s_siI, if_neg (fun z => m1 z.1), s_siI, if_neg (fun z => m1 z.1), s_siI, if_neg (fun z => m1 z.1), cpi_i, if_neg (fun z => m2 z.1)]
