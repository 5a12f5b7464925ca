-- PASTS: apart, whole, made anew, run
def pa_Rb (i : Nat) : Bool := match c_sp[pa_R i]? with
  | some rs => Nat.beq rs.1.1 20 && (Nat.ble (pa_n i) rs.1.2.1 && (Nat.ble rs.1.2.2 1000000 && rs.2.1))
  | none => false
theorem pa_Rall : (List.range 59).all (fun i => pa_Rb i) = true := by decide +kernel
theorem pa_Rn : ∀ i, i < 59 → pa_R i ≠ 0 ∧ pa_R i ≠ 29 ∧ pa_R i ≠ 39 ∧ pa_R i ≠ 16 ∧ pa_R i ≠ 45 ∧ pa_R i ≠ 41 ∧ pa_R i ≠ 9 ∧ pa_R i ≠ 42 ∧ pa_R i ≠ 30 ∧ (pa_R i ≠ 14 ∧ pa_R i ≠ 15 ∧ pa_R i ≠ 104 ∧ pa_R i ≠ 105) ∧ (i = 11 ∨ pa_R i ≠ 40) := by decide +kernel
theorem pa_okT {ρ : Nat → Nat} {h : MH} {p : Nat} (ht : TH c_sp ρ h) (n1 : t_nd ρ h) (hp : ρ p = 29) (o : pl_o h p) : pa_ok h p := by
  obtain ⟨⟨r0, r1, r2, r7, r8⟩, r4, rf⟩ := past_ob ht hp
  have rw_ := past_row ht hp
  have lt : ∀ {x : Nat}, ρ x ≠ 0 → x < 16 + h_n h := fun {x} hx => (ht.2 x hx).1
  have cP := t_spec ht (by decide) (rfl : c_sp[29]? = some _) hp
  have c0 := t_spec ht (by decide) (rfl : c_sp[39]? = some _) r0
  have c4 := t_spec ht (by decide) (rfl : c_sp[16]? = some _) r4
  have c2 := t_spec ht (by decide) (rfl : c_sp[30]? = some _) r2
  have c1 := t_spec ht (by decide) (rfl : c_sp[42]? = some _) r1
  have cf := t_spec ht (by decide) (rfl : c_sp[45]? = some _) rf
  have rc := (th_rf ht (R := 39) (by decide) rfl r0 (k := 0) rfl (fun z => by cases z)).2
  have rh := (th_rf ht (R := 39) (by decide) rfl r0 (k := 1) rfl (fun z => by cases z)).2
  have cc := t_spec ht (by decide) (rfl : c_sp[40]? = some _) rc
  have ch := t_spec ht (by decide) (rfl : c_sp[41]? = some _) rh
  obtain ⟨nd1, nd2⟩ := n1 _ (Or.inl r0)
  have m0 : 0 ≤ (h_i h (h_r h p 0) 5).toInt ∧ _ := c0.2.2.2 5 (.inl (_, _)) rfl (fun z => by cases z)
  have f41 : 41 ≤ (h_k h (h_r h (h_r h p 1) 2)).2 ∧ (h_k h (h_r h (h_r h p 1) 2)).2 ≤ 41 := cf.2.1
  have r41 : 41 ≤ (h_k h (h_r h p 2)).2 ∧ (h_k h (h_r h p 2)).2 ≤ 41 := c2.2.1
  have h64 : 64 ≤ (h_k h (h_r h (h_r h p 0) 1)).2 ∧ (h_k h (h_r h (h_r h p 0) 1)).2 ≤ 32000 := ch.2.1
  refine ⟨⟨cP.1, cP.2.2.1 rfl, lt (by rw [hp]; decide)⟩, ⟨⟨c0.1, c0.2.2.1 rfl, lt (by rw [r0]; decide)⟩, ⟨cc.1, cc.2.2.1 rfl, lt (by rw [rc]; decide)⟩, ⟨ch.1, ch.2.2.1 rfl, lt (by rw [rh]; decide)⟩, nd1, ⟨m0.1, nd2⟩, h64⟩, ⟨c4.1, c4.2.2.1 rfl, lt (by rw [r4]; decide)⟩, ⟨c2.1, by omega, c2.2.2.1 rfl, lt (by rw [r2]; decide)⟩, ⟨c1.1, c1.2.2.1 rfl, lt (by rw [r1]; decide)⟩, ⟨cf.1, by omega, cf.2.2.1 rfl, lt (by rw [rf]; decide), ne_r rf rh (by decide)⟩, fun i hi => ?_, fun i j hi hj hn => ?_⟩
  · have e := rw_ i hi
    have b := List.all_eq_true.mp pa_Rall i (List.mem_range.mpr hi)
    unfold pa_Rb at b
    split at b
    · next rs hs =>
      rw [Bool.and_eq_true, Bool.and_eq_true, Bool.and_eq_true] at b
      obtain ⟨b1, b2, b3, b4⟩ := b
      have c := t_spec ht (pa_Rn i hi).1 hs e
      have b1 := Nat.eq_of_beq_eq_true b1
      have b2 := Nat.le_of_ble_eq_true b2
      have b3 := Nat.le_of_ble_eq_true b3
      have c21 := c.2.1
      exact ⟨c.1.trans b1, c.2.2.1 b4, lt (by rw [e]; exact (pa_Rn i hi).1), by omega, by omega⟩
    · cases b
  · by_cases i11 : i = 11
    · subst i11
      exact ne_r (rw_ 11 hi) (rw_ j hj) (Ne.symm ((pa_Rn j hj).2.2.2.2.2.2.2.2.2.2.resolve_left (Ne.symm hn)))
    · by_cases j11 : j = 11
      · subst j11
        exact ne_r (rw_ i hi) (rw_ 11 hj) ((pa_Rn i hi).2.2.2.2.2.2.2.2.2.2.resolve_left i11)
      · exact o i j hi hj i11 j11 hn
theorem pl_mk {ρ : Nat → Nat} {h h' : MH} {q : Nat} (ht : TH c_sp ρ h) (hq : ρ q = 29) (rr : ∀ a k, ρ a ≠ 0 → (ρ a ≠ 39 ∨ 2 ≤ k) → ρ a ≠ 9 → h_r h' a k = h_r h a k) : pl_same h h' q := by
  obtain ⟨⟨r0, r1, r2, r7, r8⟩, r4, rf⟩ := past_ob ht hq
  have p_ : ∀ k, h_r h' q k = h_r h q k := fun k => rr q k (by rw [hq]; decide) (Or.inl (by rw [hq]; decide)) (by rw [hq]; decide)
  have n_ : ∀ k, 2 ≤ k → h_r h' (h_r h q 0) k = h_r h (h_r h q 0) k := fun k hk => rr _ k (by rw [r0]; decide) (Or.inr hk) (by rw [r0]; decide)
  have w_ : ∀ k, h_r h' (h_r h (h_r h q 0) 4) k = h_r h (h_r h (h_r h q 0) 4) k := fun k => rr _ k (by rw [r4]; decide) (Or.inl (by rw [r4]; decide)) (by rw [r4]; decide)
  have l_ : ∀ k, h_r h' (h_r h q 1) k = h_r h (h_r h q 1) k := fun k => rr _ k (by rw [r1]; decide) (Or.inl (by rw [r1]; decide)) (by rw [r1]; decide)
  have o_ : ∀ k, h_r h' (h_r h q 2) k = h_r h (h_r h q 2) k := fun k => rr _ k (by rw [r2]; decide) (Or.inl (by rw [r2]; decide)) (by rw [r2]; decide)
  refine ⟨⟨p_ 0, p_ 1, n_ 4 (by decide), l_ 2⟩, fun i hi h11 => ?_⟩
  unfold pa_w
  simp only [p_, if_neg h11]
  rw [n_ 4 (by decide), n_ 2 (by decide), n_ 3 (by decide), w_, l_, o_]
theorem pl_same0 {h : MH} {q : Nat} : pl_same h h q ∧ bk_same h h q := ⟨⟨⟨rfl, rfl, rfl, rfl⟩, fun _ _ _ => rfl⟩, ⟨rfl, rfl⟩, fun _ _ _ _ => rfl, fun _ => rfl, rfl, ⟨rfl, rfl⟩, fun _ => rfl, rfl, fun _ => rfl⟩
-- what a run leaves alone
theorem pl_FW {ρ : Nat → Nat} {h h' : MH} {p q : Nat} {Y : Nat → Prop} (ht : TH c_sp ρ h) (hp : ρ p = 29) (hq : ρ q = 29) (F : FW (h_r h p 0) Y h h') : pl_same h h' q := by
  have r0 := (past_ob ht hp).1.1
  refine pl_mk ht hq (fun a k a0 ak _ => (F.2.2 a (ht.2 a a0).1).2.1 k (fun z => ?_))
  rcases ak with y | y
  · exact y (by rw [z.1]; exact r0)
  · omega
theorem pa_Rt : ∀ i, i < 59 → pa_R i ≠ 36 ∧ pa_R i ≠ 37 := by decide +kernel
theorem FW.mono {nd : Nat} {Y Y' : Nat → Prop} {h h' : MH} (F : FW nd Y h h') (k : ∀ a, Y a → Y' a) : FW nd Y' h h' := ⟨F.1, F.2.1, fun a ha => ⟨(F.2.2 a ha).1, (F.2.2 a ha).2.1, fun z => (F.2.2 a ha).2.2 (fun w => z (by
  rcases w with w | w | w | w
  · exact Or.inl w
  · exact Or.inr (Or.inl w)
  · exact Or.inr (Or.inr (Or.inl w))
  · exact Or.inr (Or.inr (Or.inr (k a w)))))⟩⟩
def run_Z (h : MH) (p a : Nat) : Prop := run_Y h p a ∨ a = h_r h p 9 ∨ a = h_r h p 10
-- an address of one past's region isn't what another past's run may change
theorem bk_not {ρ : Nat → Nat} {h : MH} {p a R : Nat} (ht : TH c_sp ρ h) (hp : ρ p = 29) (ha : ρ a = R) (n0 : R ≠ 39 ∨ a ≠ h_r h p 0) (n1 : R ≠ 40 ∨ a ≠ h_r h (h_r h p 0) 0) (n2 : R ≠ 41 ∨ a ≠ h_r h (h_r h p 0) 1) (n3 : R ≠ 29 ∨ a ≠ p) (n4 : R ≠ 16) (n5 : R ≠ 45 ∨ a ≠ h_r h (h_r h p 1) 2) (n6 : R ≠ 36 ∧ R ≠ 37) (n7 : ∀ i, i < 59 → R ≠ pa_R i ∨ a ≠ pa_w h p i) : ¬ (a = h_r h p 0 ∨ a = h_r h (h_r h p 0) 0 ∨ a = h_r h (h_r h p 0) 1 ∨ run_Z h p a) := fun z => by
  obtain ⟨⟨r0, r1, r2, r7, r8⟩, r4, rf⟩ := past_ob ht hp
  have rw_ := past_row ht hp
  have rc := (th_rf ht (R := 39) (by decide) rfl r0 (k := 0) rfl (fun z => by cases z)).2
  have rh := (th_rf ht (R := 39) (by decide) rfl r0 (k := 1) rfl (fun z => by cases z)).2
  have r9 := (th_rf ht (R := 29) (by decide) rfl hp (k := 9) (R2 := 36) rfl (fun z => by cases z)).2
  have r10 := (th_rf ht (R := 29) (by decide) rfl hp (k := 10) (R2 := 37) rfl (fun z => by cases z)).2
  rcases z with z | z | z | (z | z | ⟨i, hi, z⟩ | z) | z | z
  · rcases n0 with n | n
    · exact ne_r ha r0 n z
    · exact n z
  · rcases n1 with n | n
    · exact ne_r ha rc n z
    · exact n z
  · rcases n2 with n | n
    · exact ne_r ha rh n z
    · exact n z
  · rcases n3 with n | n
    · exact ne_r ha hp n z
    · exact n z
  · exact ne_r ha r4 n4 z
  · rcases n7 i hi with n | n
    · exact ne_r ha (rw_ i hi) n z
    · exact n z
  · rcases n5 with n | n
    · exact ne_r ha rf n z
    · exact n z
  · exact ne_r ha r9 n6.1 z
  · exact ne_r ha r10 n6.2 z
theorem bk_FW {ρ : Nat → Nat} {h h' : MH} {p q : Nat} (ht : TH c_sp ρ h) (hp : ρ p = 29) (hq : ρ q = 29) (x : pl_x h p q) (F : FW (h_r h p 0) (run_Z h p) h h') : bk_same h h' q := by
  obtain ⟨⟨q0, q1, q2, q7, q8⟩, q4, qf⟩ := past_ob ht hq
  have qw := past_row ht hq
  have qc := (th_rf ht (R := 39) (by decide) rfl q0 (k := 0) rfl (fun z => by cases z)).2
  obtain ⟨x1, x2, x3, x4, x5, x6, x7⟩ := x
  have qh := (th_rf ht (R := 39) (by decide) rfl q0 (k := 1) rfl (fun z => by cases z)).2
  have lt : ∀ {a : Nat}, ρ a ≠ 0 → a < 16 + h_n h := fun {a} ha => (ht.2 a ha).1
  have np : ∀ i, i < 59 → 29 ≠ pa_R i := fun i hi => Ne.symm (pa_Rn i hi).2.1
  have nn : ∀ i, i < 59 → 39 ≠ pa_R i := fun i hi => Ne.symm (pa_Rn i hi).2.2.1
  have nf : ∀ i, i < 59 → 45 ≠ pa_R i := fun i hi => Ne.symm (pa_Rn i hi).2.2.2.2.1
  have aq := (F.2.2 q (lt (by rw [hq]; decide))).2.2 (bk_not ht hp hq (Or.inl (by decide)) (Or.inl (by decide)) (Or.inl (by decide)) (Or.inr (Ne.symm x1)) (by decide) (Or.inl (by decide)) ⟨by decide, by decide⟩ (fun i hi => Or.inl (np i hi)))
  have an := (F.2.2 _ (lt (by rw [q0]; decide))).2.2 (bk_not ht hp q0 (Or.inr (Ne.symm x2)) (Or.inl (by decide)) (Or.inl (by decide)) (Or.inl (by decide)) (by decide) (Or.inl (by decide)) ⟨by decide, by decide⟩ (fun i hi => Or.inl (nn i hi)))
  have ac := (F.2.2 _ (lt (by rw [qc]; decide))).2.2 (bk_not ht hp qc (Or.inl (by decide)) (Or.inr (Ne.symm x6)) (Or.inl (by decide)) (Or.inl (by decide)) (by decide) (Or.inl (by decide)) ⟨by decide, by decide⟩ (fun i hi => by
    by_cases e : i = 11
    · subst e
      exact Or.inr (Ne.symm x6)
    · exact Or.inl (Ne.symm ((pa_Rn i hi).2.2.2.2.2.2.2.2.2.2.resolve_left e))))
  have ah := (F.2.2 _ (lt (by rw [qh]; decide))).2.2 (bk_not ht hp qh (Or.inl (by decide)) (Or.inl (by decide)) (Or.inr (Ne.symm x7)) (Or.inl (by decide)) (by decide) (Or.inl (by decide)) ⟨by decide, by decide⟩ (fun i hi => Or.inl (Ne.symm (pa_Rn i hi).2.2.2.2.2.1)))
  have af := (F.2.2 _ (lt (by rw [qf]; decide))).2.2 (bk_not ht hp qf (Or.inl (by decide)) (Or.inl (by decide)) (Or.inl (by decide)) (Or.inl (by decide)) (by decide) (Or.inr (Ne.symm x4)) ⟨by decide, by decide⟩ (fun i hi => Or.inl (nf i hi)))
  refine ⟨⟨Int32.toInt_inj.mp (aq.1 11), Int32.toInt_inj.mp (aq.1 12)⟩, fun i hi i12 j => ?_, af.2, (F.2.2 _ (lt (by rw [q0]; decide))).2.1 0 (fun z => x2 z.1.symm), ⟨Int32.toInt_inj.mp (an.1 5), Int32.toInt_inj.mp (an.1 6)⟩, fun j => Int32.toInt_inj.mp (ac.1 j), (F.2.2 _ (lt (by rw [q0]; decide))).2.1 1 (fun z => x2 z.1.symm), ah.2⟩
  have ei := qw i hi
  obtain ⟨s1, s2, s3, s4, s5, s6, -, -, -, -, s7⟩ := pa_Rn i hi
  have s7 := s7.resolve_left (by omega)
  refine Int32.toInt_inj.mp (((F.2.2 _ (lt (by rw [ei]; exact s1))).2.2 (bk_not ht hp ei (Or.inl s3) (Or.inl s7) (Or.inl s6) (Or.inl s2) s4 (Or.inl s5) (pa_Rt i hi) (fun i2 hi2 => ?_))).1 j)
  by_cases e : i2 = 11
  · subst e
    exact Or.inl s7
  · exact Or.inr (fun z => x5 i2 i hi2 hi e (by omega) z.symm)
-- what a finished run tells, of it the books
theorem bk_pk {h : MH} {p : Nat} {Y : RYt} (k : pk_of h p Y) (hd : hd_0 h p Y) : bk_0 h p Y := by
  obtain ⟨cs, tt, ⟨⟨a1, a2, a3⟩, a4⟩, b, c, d⟩ := k
  exact ⟨⟨a1, a2, a3⟩, fun v hv => (a4 v hv).2, b, c, ⟨d, hd⟩, ⟨ps_l (ry_s Y), cs⟩, tt, fun v hv => (a4 v hv).1⟩
-- one past run: all others stay
theorem run_pl {ρ : Nat → Nat} {h h' : MH} {k : Nat} (ht : TH c_sp ρ h) (h16 : ρ 16 = 6) (pl : pl_t h) (hk : k < 4) (k0 : r_sl h k ≠ 0) (F : FW (h_r h (r_sl h k) 0) (run_Z h (r_sl h k)) h h') : pl_t h' ∧ (∀ j, r_sl h' j = r_sl h j) ∧ ∀ j, j < 4 → j ≠ k → r_sl h j ≠ 0 → ∀ Y, bk_0 h (r_sl h j) Y → bk_0 h' (r_sl h j) Y := by
  have fP : ρ (r_P h) = 9 := (th_rf ht (R := 6) (by decide) rfl h16 (k := 2) rfl (fun z => by cases z)).2
  have hp := sl_ob ht h16 hk k0
  have r0 := (past_ob ht hp).1.1
  have rr : ∀ a k2, ρ a ≠ 0 → ρ a ≠ 39 → h_r h' a k2 = h_r h a k2 := fun a k2 a0 an => (F.2.2 a (ht.2 a a0).1).2.1 k2 (fun z => an (by rw [z.1]; exact r0))
  have eP : r_P h' = r_P h := rr 16 2 (by rw [h16]; decide) (by rw [h16]; decide)
  have es : ∀ j, r_sl h' j = r_sl h j := fun j => by
    unfold r_sl
    rw [eP]
    exact rr _ j (by rw [fP]; decide) (by rw [fP]; decide)
  have sm : ∀ j, j < 4 → r_sl h j ≠ 0 → pl_same h h' (r_sl h j) := fun j hj j0 => pl_FW ht hp (sl_ob ht h16 hj j0) F
  have bks : ∀ j, j < 4 → j ≠ k → r_sl h j ≠ 0 → bk_same h h' (r_sl h j) := fun j hj hn j0 => bk_FW ht hp (sl_ob ht h16 hj j0) ((pl k hk k0).2 j hj hn j0) F
  have c1 : ∀ j, j < 4 → j ≠ k → r_sl h j ≠ 0 → h_r h' (h_r h' (r_sl h j) 0) 0 = h_r h (h_r h (r_sl h j) 0) 0 := fun j hj hn j0 => ce_same (sm j hj j0) (bks j hj hn j0)
  have c2 : h_r h' (h_r h' (r_sl h k) 0) 0 = h_r h (h_r h (r_sl h k) 0) 0 ∨ 16 + h_n h ≤ h_r h' (h_r h' (r_sl h k) 0) 0 := by
    rw [(sm k hk k0).1.1]
    exact F.2.1 0 (by decide)
  have c3 : ∀ j, j < 4 → r_sl h j ≠ 0 → h_r h (h_r h (r_sl h j) 0) 0 < 16 + h_n h := fun j hj j0 => by
    have q := (th_rf ht (R := 39) (by decide) rfl (past_ob ht (sl_ob ht h16 hj j0)).1.1 (k := 0) rfl (fun z => by cases z)).2
    exact (ht.2 _ (by rw [q]; decide)).1
  have d1 : ∀ j, j < 4 → j ≠ k → r_sl h j ≠ 0 → h_r h' (h_r h' (r_sl h j) 0) 1 = h_r h (h_r h (r_sl h j) 0) 1 := fun j hj hn j0 => he_same (sm j hj j0) (bks j hj hn j0)
  have d2 : h_r h' (h_r h' (r_sl h k) 0) 1 = h_r h (h_r h (r_sl h k) 0) 1 ∨ 16 + h_n h ≤ h_r h' (h_r h' (r_sl h k) 0) 1 := by
    rw [(sm k hk k0).1.1]
    exact F.2.1 1 (by decide)
  have d3 : ∀ j, j < 4 → r_sl h j ≠ 0 → h_r h (h_r h (r_sl h j) 0) 1 < 16 + h_n h := fun j hj j0 => by
    have q := (th_rf ht (R := 39) (by decide) rfl (past_ob ht (sl_ob ht h16 hj j0)).1.1 (k := 1) rfl (fun z => by cases z)).2
    exact (ht.2 _ (by rw [q]; decide)).1
  refine ⟨fun j hj j0 => ?_, es, fun j hj hn j0 Y b => bk_sameB (sm j hj j0) (bks j hj hn j0) b⟩
  rw [es] at j0 ⊢
  obtain ⟨y1, y2⟩ := pl j hj j0
  refine ⟨pl_sameO (sm j hj j0) y1, fun i hi hn i0 => ?_⟩
  rw [es] at i0 ⊢
  refine pl_sameX (sm j hj j0) (sm i hi i0) (y2 i hi hn i0) ?_ ?_
  · have y6 := (y2 i hi hn i0).2.2.2.2.2.1
    have t3 := c3 i hi i0
    have u3 := c3 j hj j0
    by_cases ej : j = k
    · subst ej
      have e1 := c1 i hi hn i0
      omega
    · have e1 := c1 j hj ej j0
      by_cases ei : i = k
      · subst ei
        omega
      · have e2 := c1 i hi ei i0
        omega
  · have y6 := (y2 i hi hn i0).2.2.2.2.2.2
    have t3 := d3 i hi i0
    have u3 := d3 j hj j0
    by_cases ej : j = k
    · subst ej
      have e1 := d1 i hi hn i0
      omega
    · have e1 := d1 j hj ej j0
      by_cases ei : i = k
      · subst ei
        omega
      · have e2 := d1 i hi ei i0
        omega
