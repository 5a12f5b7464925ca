-- PASTS: apart, whole, made anew, run
def pa_Rb (i : Nat) : Bool := match c_sp[pa_R i]? with
  | some rs => Nat.beq rs.1.1 20 && (Nat.ble (pa_n i) rs.1.2.1 && (Nat.ble rs.1.2.2 1000000 && rs.2.1))
  | none => false
theorem pa_Rall : (List.range 59).all (fun i => pa_Rb i) = true := by decide +kernel
theorem pa_Rn : ∀ i, i < 59 → pa_R i ≠ 0 ∧ pa_R i ≠ 29 ∧ pa_R i ≠ 39 ∧ pa_R i ≠ 16 ∧ pa_R i ≠ 45 ∧ pa_R i ≠ 41 ∧ pa_R i ≠ 9 ∧ pa_R i ≠ 42 ∧ pa_R i ≠ 30 ∧ (pa_R i ≠ 14 ∧ pa_R i ≠ 15 ∧ pa_R i ≠ 104 ∧ pa_R i ≠ 105) ∧ (i = 11 ∨ pa_R i ≠ 40) := by decide +kernel
theorem pa_okT {ρ : Nat → Nat} {h : MH} {p : Nat} (ht : TH c_sp ρ h) (n1 : t_nd ρ h) (hp : ρ p = 29) (o : pl_o h p) : pa_ok h p := by
  obtain ⟨⟨r0, r1, r2, r7, r8⟩, r4, rf⟩ := past_ob ht hp
  have rw_ := past_row ht hp
  have lt : ∀ {x : Nat}, ρ x ≠ 0 → x < 16 + h_n h := fun {x} hx => (ht.2 x hx).1
  have cP := t_spec ht (by decide) (rfl : c_sp[29]? = some _) hp
  have c0 := t_spec ht (by decide) (rfl : c_sp[39]? = some _) r0
  have c4 := t_spec ht (by decide) (rfl : c_sp[16]? = some _) r4
  have c2 := t_spec ht (by decide) (rfl : c_sp[30]? = some _) r2
  have c1 := t_spec ht (by decide) (rfl : c_sp[42]? = some _) r1
  have cf := t_spec ht (by decide) (rfl : c_sp[45]? = some _) rf
  have rc := (th_rf ht (R := 39) (by decide) rfl r0 (k := 0) rfl (fun z => by cases z)).2
  have rh := (th_rf ht (R := 39) (by decide) rfl r0 (k := 1) rfl (fun z => by cases z)).2
  have cc := t_spec ht (by decide) (rfl : c_sp[40]? = some _) rc
  have ch := t_spec ht (by decide) (rfl : c_sp[41]? = some _) rh
  obtain ⟨nd1, nd2⟩ := n1 _ (Or.inl r0)
  have m0 : 0 ≤ (h_i h (h_r h p 0) 5).toInt ∧ _ := c0.2.2.2 5 (.inl (_, _)) rfl (fun z => by cases z)
  have f41 : 41 ≤ (h_k h (h_r h (h_r h p 1) 2)).2 ∧ (h_k h (h_r h (h_r h p 1) 2)).2 ≤ 41 := cf.2.1
  have r41 : 41 ≤ (h_k h (h_r h p 2)).2 ∧ (h_k h (h_r h p 2)).2 ≤ 41 := c2.2.1
  have h64 : 64 ≤ (h_k h (h_r h (h_r h p 0) 1)).2 ∧ (h_k h (h_r h (h_r h p 0) 1)).2 ≤ 32000 := ch.2.1
  refine ⟨⟨cP.1, cP.2.2.1 rfl, lt (by rw [hp]; decide)⟩, ⟨⟨c0.1, c0.2.2.1 rfl, lt (by rw [r0]; decide)⟩, ⟨cc.1, cc.2.2.1 rfl, lt (by rw [rc]; decide)⟩, ⟨ch.1, ch.2.2.1 rfl, lt (by rw [rh]; decide)⟩, nd1, ⟨m0.1, nd2⟩, h64⟩, ⟨c4.1, c4.2.2.1 rfl, lt (by rw [r4]; decide)⟩, ⟨c2.1, by omega, c2.2.2.1 rfl, lt (by rw [r2]; decide)⟩, ⟨c1.1, c1.2.2.1 rfl, lt (by rw [r1]; decide)⟩, ⟨cf.1, by omega, cf.2.2.1 rfl, lt (by rw [rf]; decide), ne_r rf rh (by decide)⟩, fun i hi => ?_, fun i j hi hj hn => ?_⟩
  · have e := rw_ i hi
    have b := List.all_eq_true.mp pa_Rall i (List.mem_range.mpr hi)
    unfold pa_Rb at b
    split at b
    · next rs hs =>
      rw [Bool.and_eq_true, Bool.and_eq_true, Bool.and_eq_true] at b
      obtain ⟨b1, b2, b3, b4⟩ := b
      have c := t_spec ht (pa_Rn i hi).1 hs e
      have b1 := Nat.eq_of_beq_eq_true b1
      have b2 := Nat.le_of_ble_eq_true b2
      have b3 := Nat.le_of_ble_eq_true b3
      have c21 := c.2.1
      exact ⟨c.1.trans b1, c.2.2.1 b4, lt (by rw [e]; exact (pa_Rn i hi).1), by omega, by omega⟩
    · cases b
  · by_cases i11 : i = 11
    · subst i11
      exact ne_r (rw_ 11 hi) (rw_ j hj) (Ne.symm ((pa_Rn j hj).2.2.2.2.2.2.2.2.2.2.resolve_left (Ne.symm hn)))
    · by_cases j11 : j = 11
      · subst j11
        exact ne_r (rw_ i hi) (rw_ 11 hj) ((pa_Rn i hi).2.2.2.2.2.2.2.2.2.2.resolve_left i11)
      · exact o i j hi hj i11 j11 hn
theorem pl_mk {ρ : Nat → Nat} {h h' : MH} {q : Nat} (ht : TH c_sp ρ h) (hq : ρ q = 29) (rr : ∀ a k, ρ a ≠ 0 → (ρ a ≠ 39 ∨ 2 ≤ k) → ρ a ≠ 9 → h_r h' a k = h_r h a k) : pl_same h h' q := by
  obtain ⟨⟨r0, r1, r2, r7, r8⟩, r4, rf⟩ := past_ob ht hq
  have p_ : ∀ k, h_r h' q k = h_r h q k := fun k => rr q k (by rw [hq]; decide) (Or.inl (by rw [hq]; decide)) (by rw [hq]; decide)
  have n_ : ∀ k, 2 ≤ k → h_r h' (h_r h q 0) k = h_r h (h_r h q 0) k := fun k hk => rr _ k (by rw [r0]; decide) (Or.inr hk) (by rw [r0]; decide)
  have w_ : ∀ k, h_r h' (h_r h (h_r h q 0) 4) k = h_r h (h_r h (h_r h q 0) 4) k := fun k => rr _ k (by rw [r4]; decide) (Or.inl (by rw [r4]; decide)) (by rw [r4]; decide)
  have l_ : ∀ k, h_r h' (h_r h q 1) k = h_r h (h_r h q 1) k := fun k => rr _ k (by rw [r1]; decide) (Or.inl (by rw [r1]; decide)) (by rw [r1]; decide)
  have o_ : ∀ k, h_r h' (h_r h q 2) k = h_r h (h_r h q 2) k := fun k => rr _ k (by rw [r2]; decide) (Or.inl (by rw [r2]; decide)) (by rw [r2]; decide)
  refine ⟨⟨p_ 0, p_ 1, n_ 4 (by decide), l_ 2⟩, fun i hi h11 => ?_⟩
  unfold pa_w
  simp only [p_, if_neg h11]
  rw [n_ 4 (by decide), n_ 2 (by decide), n_ 3 (by decide), w_, l_, o_]
theorem pl_same0 {h : MH} {q : Nat} : pl_same h h q ∧ bk_same h h q := ⟨⟨⟨rfl, rfl, rfl, rfl⟩, fun _ _ _ => rfl⟩, rfl, fun _ _ _ _ => rfl, fun _ => rfl⟩
-- what a run leaves alone
theorem pl_FW {ρ : Nat → Nat} {h h' : MH} {p q : Nat} {Y : Nat → Prop} (ht : TH c_sp ρ h) (hp : ρ p = 29) (hq : ρ q = 29) (F : FW (h_r h p 0) Y h h') : pl_same h h' q := by
  have r0 := (past_ob ht hp).1.1
  refine pl_mk ht hq (fun a k a0 ak _ => (F.2.2 a (ht.2 a a0).1).2.1 k (fun z => ?_))
  rcases ak with y | y
  · exact y (by rw [z.1]; exact r0)
  · omega
theorem bk_FW {ρ : Nat → Nat} {h h' : MH} {p q : Nat} (ht : TH c_sp ρ h) (hp : ρ p = 29) (hq : ρ q = 29) (x : pl_x h p q) (F : FW (h_r h p 0) (run_Y h p) h h') : bk_same h h' q := by
  obtain ⟨⟨r0, r1, r2, r7, r8⟩, r4, rf⟩ := past_ob ht hp
  obtain ⟨⟨q0, q1, q2, q7, q8⟩, q4, qf⟩ := past_ob ht hq
  have rw_ := past_row ht hp
  have qw := past_row ht hq
  have rc := (th_rf ht (R := 39) (by decide) rfl r0 (k := 0) rfl (fun z => by cases z)).2
  have rh := (th_rf ht (R := 39) (by decide) rfl r0 (k := 1) rfl (fun z => by cases z)).2
  obtain ⟨x1, x2, x3, x4, x5⟩ := x
  have lt : ∀ {a : Nat}, ρ a ≠ 0 → a < 16 + h_n h := fun {a} ha => (ht.2 a ha).1
  refine ⟨?_, fun i i18 i12 j => ?_, fun j => ?_⟩
  · refine Int32.toInt_inj.mp (((F.2.2 q (lt (by rw [hq]; decide))).2.2 (fun z => ?_)).1 11)
    rcases z with z | z | z | z | z | ⟨i, hi, z⟩ | z
    · exact ne_r hq r0 (by decide) z
    · exact ne_r hq rc (by decide) z
    · exact ne_r hq rh (by decide) z
    · exact x1 z.symm
    · exact ne_r hq r4 (by decide) z
    · exact ne_r hq (rw_ i hi) (Ne.symm (pa_Rn i hi).2.1) z
    · exact ne_r hq rf (by decide) z
  · have hi : i < 59 := by omega
    have ei := qw i hi
    obtain ⟨s1, s2, s3, s4, s5, s6, -, -, -, -, s7⟩ := pa_Rn i hi
    refine Int32.toInt_inj.mp (((F.2.2 _ (lt (by rw [ei]; exact s1))).2.2 (fun z => ?_)).1 j)
    rcases z with z | z | z | z | z | ⟨i2, hi2, z⟩ | z
    · exact ne_r ei r0 s3 z
    · exact ne_r ei rc (s7.resolve_left (by omega)) z
    · exact ne_r ei rh s6 z
    · exact ne_r ei hp s2 z
    · exact ne_r ei r4 s4 z
    · by_cases e : i2 = 11
      · subst e
        exact ne_r ei (rw_ 11 hi2) (s7.resolve_left (by omega)) z
      · exact x5 i2 i hi2 hi e (by omega) z.symm
    · exact ne_r ei rf s5 z
  · refine ((F.2.2 _ (lt (by rw [qf]; decide))).2.2 (fun z => ?_)).2 j
    rcases z with z | z | z | z | z | ⟨i, hi, z⟩ | z
    · exact ne_r qf r0 (by decide) z
    · exact ne_r qf rc (by decide) z
    · exact ne_r qf rh (by decide) z
    · exact ne_r qf hp (by decide) z
    · exact ne_r qf r4 (by decide) z
    · exact ne_r qf (rw_ i hi) (Ne.symm (pa_Rn i hi).2.2.2.2.1) z
    · exact x4 z.symm
-- what a finished run tells, of it the books
theorem bk_pk {h : MH} {p : Nat} {Y : RYt} (k : pk_of h p Y) : bk_0 h p Y := by
  obtain ⟨-, -, ⟨⟨a1, a2, a3⟩, a4⟩, b, c, d⟩ := k
  exact ⟨⟨a1, a2, a3⟩, fun v hv => (a4 v hv).2, b, c, d⟩
-- one past run: all others stay
theorem run_pl {ρ : Nat → Nat} {h h' : MH} {k : Nat} (ht : TH c_sp ρ h) (h16 : ρ 16 = 6) (pl : pl_t h) (hk : k < 4) (k0 : r_sl h k ≠ 0) (F : FW (h_r h (r_sl h k) 0) (run_Y h (r_sl h k)) h h') : pl_t h' ∧ (∀ j, r_sl h' j = r_sl h j) ∧ ∀ j, j < 4 → j ≠ k → r_sl h j ≠ 0 → ∀ Y, bk_0 h (r_sl h j) Y → bk_0 h' (r_sl h j) Y := by
  have fP : ρ (r_P h) = 9 := (th_rf ht (R := 6) (by decide) rfl h16 (k := 2) rfl (fun z => by cases z)).2
  have hp := sl_ob ht h16 hk k0
  have r0 := (past_ob ht hp).1.1
  have rr : ∀ a k2, ρ a ≠ 0 → ρ a ≠ 39 → h_r h' a k2 = h_r h a k2 := fun a k2 a0 an => (F.2.2 a (ht.2 a a0).1).2.1 k2 (fun z => an (by rw [z.1]; exact r0))
  have eP : r_P h' = r_P h := rr 16 2 (by rw [h16]; decide) (by rw [h16]; decide)
  have es : ∀ j, r_sl h' j = r_sl h j := fun j => by
    unfold r_sl
    rw [eP]
    exact rr _ j (by rw [fP]; decide) (by rw [fP]; decide)
  have sm : ∀ j, j < 4 → r_sl h j ≠ 0 → pl_same h h' (r_sl h j) := fun j hj j0 => pl_FW ht hp (sl_ob ht h16 hj j0) F
  refine ⟨fun j hj j0 => ?_, es, fun j hj hn j0 Y b => bk_sameB (sm j hj j0) (bk_FW ht hp (sl_ob ht h16 hj j0) ((pl k hk k0).2 j hj hn j0) F) b⟩
  rw [es] at j0 ⊢
  obtain ⟨y1, y2⟩ := pl j hj j0
  refine ⟨pl_sameO (sm j hj j0) y1, fun i hi hn i0 => ?_⟩
  rw [es] at i0 ⊢
  exact pl_sameX (sm j hj j0) (sm i hi i0) (y2 i hi hn i0)
