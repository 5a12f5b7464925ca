-- THE RELATION OF WHAT IS TOLD, MOVED FROM PLACE TO PLACE
def pc_eq (h : MH) (a : Nat) (h' : MH) (a' : Nat) : Prop := (∀ K, 2 ≤ K → K < 6 → q_fd h' a' K = q_fd h a K) ∧ (∀ j, j < 600 → q_tp h' a' j = q_tp h a j) ∧ ∀ r, r < 4 → q_fd h' (q_ac h' a' r) 2 = q_fd h (q_ac h a r) 2 ∧ (∀ k, k < 40 → q_kd h' (q_ac h' a' r) k = q_kd h (q_ac h a r) k) ∧ ∀ k, k < 120 → q_nm h' (q_ac h' a' r) k = q_nm h (q_ac h a r) k
def vm_eq (h : MH) (m s : Nat) (h' : MH) (s' : Nat) : Prop := (∀ K, (K = 2 ∨ K = 3 ∨ K = 4 ∨ K = 5) → q_vm h' m K s' = q_vm h m K s) ∧ (∀ j, j < 600 → q_vm h' m 1 (600 * s' + j) = q_vm h m 1 (600 * s + j)) ∧ ∀ j, j < 644 → q_vm h' m 6 (644 * s' + j) = q_vm h m 6 (644 * s + j)
def td_bd (h : MH) (a : Nat) : Prop := q_fd h a 2 ≤ 600 ∧ q_fd h a 5 ≤ 4 ∧ ∀ r, r < 4 → q_fd h (q_ac h a r) 2 ≤ 40
section
variable {h h' h2 : MH} {a a' a2 m s s' s2 : Nat}
theorem pc_eqT (e : pc_eq h a h' a') (f : pc_eq h' a' h2 a2) : pc_eq h a h2 a2 := ⟨fun K k1 k2 => (f.1 K k1 k2).trans (e.1 K k1 k2), fun j hj => (f.2.1 j hj).trans (e.2.1 j hj), fun r hr => ⟨(f.2.2 r hr).1.trans (e.2.2 r hr).1, fun k hk => ((f.2.2 r hr).2.1 k hk).trans ((e.2.2 r hr).2.1 k hk), fun k hk => ((f.2.2 r hr).2.2 k hk).trans ((e.2.2 r hr).2.2 k hk)⟩⟩
theorem vm_eqT (e : vm_eq h m s h' s') (f : vm_eq h' m s' h2 s2) : vm_eq h m s h2 s2 := ⟨fun K k => (f.1 K k).trans (e.1 K k), fun j hj => (f.2.1 j hj).trans (e.2.1 j hj), fun j hj => (f.2.2 j hj).trans (e.2.2 j hj)⟩
theorem pc_same (e : td_same h h' a) : pc_eq h a h' a := by
  refine ⟨fun K _ k2 => congrArg Int32.toInt (e.1 K k2), fun j _ => e.2.2.1 j, fun r hr => ?_⟩
  obtain ⟨e1, e2⟩ := e.2.2.2 r hr
  rw [e1]
  exact ⟨congrArg Int32.toInt e2.1, fun k _ => (e2.2.2 k).1, fun k _ => (e2.2.2 k).2⟩
theorem vm_sameE (e : vm_same h h' m) : vm_eq h m s h' s := ⟨fun K hK => by rw [e K (by omega)], fun j _ => by rw [e 1 (by decide)], fun j _ => by rw [e 6 (by decide)]⟩
theorem td_move (b : td_bd h a) (e : pc_eq h a h' a') (v : vm_eq h m s h' s') (t : td_rel h a m s) : td_rel h' a' m s' := by
  obtain ⟨b1, b2, b3⟩ := b
  obtain ⟨⟨k2, k3, k4, k5⟩, k6, k7⟩ := t
  refine ⟨⟨?_, ?_, ?_, ?_⟩, fun j hj => ?_, fun r hr => ?_⟩
  · rw [e.1 2 (by decide) (by decide), v.1 2 (by decide)]
    exact k2
  · rw [e.1 3 (by decide) (by decide), v.1 3 (by decide)]
    exact k3
  · rw [e.1 4 (by decide) (by decide), v.1 4 (by decide)]
    exact k4
  · rw [e.1 5 (by decide) (by decide), v.1 5 (by decide)]
    exact k5
  · rw [e.1 2 (by decide) (by decide)] at hj
    rw [e.2.1 j (by omega), v.2.1 j (by omega)]
    exact k6 j hj
  · rw [e.1 5 (by decide) (by decide)] at hr
    have r4 : r < 4 := by omega
    obtain ⟨y1, y2⟩ := k7 r hr
    obtain ⟨z1, z2, z3⟩ := e.2.2 r r4
    have b4 := b3 r r4
    have vv : ∀ j, j < 161 → q_vm h' m 6 (644 * s' + 161 * r + j) = q_vm h m 6 (644 * s + 161 * r + j) := fun j hj => by
      rw [Nat.add_assoc, v.2.2 (161 * r + j) (by omega), ← Nat.add_assoc]
    refine ⟨?_, fun k hk => ?_⟩
    · have := vv 0 (by decide)
      rw [Nat.add_zero, Nat.add_zero] at this
      rw [z1, this]
      exact y1
    · rw [z1] at hk
      obtain ⟨w1, w2⟩ := y2 k hk
      refine ⟨?_, fun i hi => ?_⟩
      · have := vv (1 + 4 * k) (by omega)
        rw [← Nat.add_assoc, ← Nat.add_assoc] at this
        rw [z2 k (by omega), this]
        exact w1
      · have := vv (2 + 4 * k + i) (by omega)
        rw [← Nat.add_assoc, ← Nat.add_assoc, ← Nat.add_assoc, ← Nat.add_assoc] at this
        rw [z3 (3 * k + i) (by omega), this]
        exact w2 i hi
end
theorem ct_pc {h h' : MH} {a b : Nat} (I : ct_I h a b 4 h') : pc_eq h b h' a := by
  obtain ⟨⟨-, -, i3⟩, i4, i5, i6, -⟩ := I
  have er : ∀ x k, h_r h' x k = h_r h x k := fun x k => (i3 x k).2
  have ea : ∀ r, q_ac h' a r = q_ac h a r := fun r => by
    unfold q_ac
    rw [er, er]
  refine ⟨fun K k1 k2 => congrArg Int32.toInt (i5 K k1 k2), fun j hj => ?_, fun r hr => ?_⟩
  · unfold q_tp
    rw [er, i4 j hj]
  · obtain ⟨j1, j2, j3⟩ := i6 r hr
    rw [ea]
    refine ⟨congrArg Int32.toInt j1, fun k hk => ?_, fun k hk => ?_⟩
    · unfold q_kd
      rw [er, j2 k hk]
    · unfold q_nm
      rw [er, j3 k hk]
section
variable {ρ : Nat → Nat} {h : MH} {a : Nat}
theorem td_bdN (ht : TH c_sp ρ h) (ha : ρ a = 7) : td_bd h a := by
  have r4 := td_r4N ht ha
  refine ⟨r4.2.2.2, r4.2.1, fun r hr => ?_⟩
  obtain ⟨rc, -, -⟩ := (td_obN ht ha).2.2 r hr
  have c := t_spec ht (by decide) (rfl : c_sp[12]? = some _) rc
  exact (c.2.2.2 2 (.inl (0, 40)) rfl (fun z => by cases z)).2
theorem td_bdI (ht : TH c_sp ρ h) (ha : ρ a = 97) : td_bd h a := by
  have r4 := td_r4I ht ha
  refine ⟨r4.2.2.2, r4.2.1, fun r hr => ?_⟩
  obtain ⟨rc, -, -⟩ := (td_obI ht ha).2.2 r hr
  have c := t_spec ht (by decide) (rfl : c_sp[100]? = some _) rc
  exact (c.2.2.2 2 (.inl (0, 40)) rfl (fun z => by cases z)).2
end
-- the reference's rows, told by its picture
theorem MX.qv {W : List (Nat × Nat)} {ρ : Nat → Nat} {m : Nat} {A : Nat → Nat} {h0 h : MH} {F : Nat → Int} {V : Nat → Nat → Int} {G : Nat → Nat → Int64} (M : MX 49 W ρ m A h0 h F V G) {K : Nat} (hK : rg_a 49 K ≠ 0) (j : Nat) : q_vm h m K j = V K j := by
  unfold q_vm
  rw [(M.2.2 K hK).1]
  exact ((M.2.2 K hK).2 j).1
section
variable {W W0 : List (Nat × Nat)} {ρ : Nat → Nat} {m : Nat} {A A0 : Nat → Nat} {h0 h1 h h' : MH} {F F' : Nat → Int} {V V' : Nat → Nat → Int} {G G' : Nat → Nat → Int64}
theorem vm_mk {s s' : Nat} (M : MX 49 W0 ρ m A0 h0 h F V G) (M' : MX 49 W ρ m A h1 h' F' V' G') (c1 : ∀ K, (K = 2 ∨ K = 3 ∨ K = 4 ∨ K = 5) → V' K s' = V K s) (c2 : ∀ j, j < 600 → V' 1 (600 * s' + j) = V 1 (600 * s + j)) (c3 : ∀ j, j < 644 → V' 6 (644 * s' + j) = V 6 (644 * s + j)) : vm_eq h m s h' s' := by
  refine ⟨fun K hK => ?_, fun j hj => ?_, fun j hj => ?_⟩
  · rcases hK with rfl | rfl | rfl | rfl
    · rw [M.qv (by decide +kernel), M'.qv (by decide +kernel)]
      exact c1 2 (by decide)
    · rw [M.qv (by decide +kernel), M'.qv (by decide +kernel)]
      exact c1 3 (by decide)
    · rw [M.qv (by decide +kernel), M'.qv (by decide +kernel)]
      exact c1 4 (by decide)
    · rw [M.qv (by decide +kernel), M'.qv (by decide +kernel)]
      exact c1 5 (by decide)
  · rw [M.qv (by decide +kernel), M'.qv (by decide +kernel)]
    exact c2 j hj
  · rw [M.qv (by decide +kernel), M'.qv (by decide +kernel)]
    exact c3 j hj
-- behind a copy of the reference's: the place copied to, any other
theorem vm_cpT {f t : Nat} (M : MX 49 W0 ρ m A0 h0 h F V G) (M' : MX 49 W ρ m A h1 h' F' V' G') (c : cp_all f t V V') : vm_eq h m f h' t := by
  obtain ⟨p1, p2, p3, p4, p5, p6, -⟩ := c
  refine vm_mk M M' (fun K hK => ?_) (fun j hj => p1.1 j hj) (fun j hj => p6.1 j hj)
  have one : ∀ {x y : Nat → Int}, cp_r 1 f t x y → y t = x f := fun {x y} c => by
    have := c.1 0 (by decide)
    rw [Nat.one_mul, Nat.one_mul] at this
    exact this
  rcases hK with rfl | rfl | rfl | rfl
  · exact one p2
  · exact one p3
  · exact one p4
  · exact one p5
theorem vm_cpO {f t s : Nat} (M : MX 49 W0 ρ m A0 h0 h F V G) (M' : MX 49 W ρ m A h1 h' F' V' G') (c : cp_all f t V V') (hs : s ≠ t) : vm_eq h m s h' s := by
  obtain ⟨p1, p2, p3, p4, p5, p6, -⟩ := c
  refine vm_mk M M' (fun K hK => ?_) (fun j hj => p1.2 _ (by omega)) (fun j hj => p6.2 _ (by omega))
  rcases hK with rfl | rfl | rfl | rfl
  · exact p2.2 s (by omega)
  · exact p3.2 s (by omega)
  · exact p4.2 s (by omega)
  · exact p5.2 s (by omega)
end
def ac_DN : List (Nat × Nat) := [(12, 0), (12, 1), (12, 2), (14, 1001), (14, 1002), (15, 1001), (15, 1002)]
theorem ac_frN {ρ ρ' : Nat → Nat} {W : List (Nat × Nat)} {h h' : MH} {c : Nat} (ht : TH c_sp ρ h) (f : FQ ρ ρ' W h h') (hn : d_no ac_DN W = true) (rc : ρ c = 12) : ac_same h h' c := by
  have rk := (th_rf ht (R := 12) (by decide) rfl rc (k := 0) rfl (fun z => by cases z)).2
  have rn := (th_rf ht (R := 12) (by decide) rfl rc (k := 1) rfl (fun z => by cases z)).2
  have lt : ∀ x, ρ x ≠ 0 → x < 16 + h_n h := fun x hx => (ht.2 x hx).1
  have lc := lt _ (by rw [rc]; decide)
  have ek := (fq_f f hn (List.mem_of_getElem? (i := 0) rfl) (by decide) rc lc).2
  have en := (fq_f f hn (List.mem_of_getElem? (i := 1) rfl) (by decide) rc lc).2
  refine ⟨(fq_f f hn (List.mem_of_getElem? (i := 2) rfl) (by decide) rc lc).1, ⟨ek, en⟩, fun k => ⟨?_, ?_⟩⟩
  · show (h_i h' (h_r h' c 0) k).toInt = _
    rw [ek]
    exact congrArg Int32.toInt (fq_e k f hn (List.mem_of_getElem? (i := 3) rfl) (List.mem_of_getElem? (i := 4) rfl) rk (lt _ (by rw [rk]; decide))).1
  · show (h_i h' (h_r h' c 1) k).toInt = _
    rw [en]
    exact congrArg Int32.toInt (fq_e k f hn (List.mem_of_getElem? (i := 5) rfl) (List.mem_of_getElem? (i := 6) rfl) rn (lt _ (by rw [rn]; decide))).1
def ac_DT : List (Nat × Nat) := [(103, 0), (103, 1), (103, 2), (104, 1001), (104, 1002), (105, 1001), (105, 1002)]
theorem ac_frT {ρ ρ' : Nat → Nat} {W : List (Nat × Nat)} {h h' : MH} {c : Nat} (ht : TH c_sp ρ h) (f : FQ ρ ρ' W h h') (hn : d_no ac_DT W = true) (rc : ρ c = 103) : ac_same h h' c := by
  have rk := (th_rf ht (R := 103) (by decide) rfl rc (k := 0) rfl (fun z => by cases z)).2
  have rn := (th_rf ht (R := 103) (by decide) rfl rc (k := 1) rfl (fun z => by cases z)).2
  have lt : ∀ x, ρ x ≠ 0 → x < 16 + h_n h := fun x hx => (ht.2 x hx).1
  have lc := lt _ (by rw [rc]; decide)
  have ek := (fq_f f hn (List.mem_of_getElem? (i := 0) rfl) (by decide) rc lc).2
  have en := (fq_f f hn (List.mem_of_getElem? (i := 1) rfl) (by decide) rc lc).2
  refine ⟨(fq_f f hn (List.mem_of_getElem? (i := 2) rfl) (by decide) rc lc).1, ⟨ek, en⟩, fun k => ⟨?_, ?_⟩⟩
  · show (h_i h' (h_r h' c 0) k).toInt = _
    rw [ek]
    exact congrArg Int32.toInt (fq_e k f hn (List.mem_of_getElem? (i := 3) rfl) (List.mem_of_getElem? (i := 4) rfl) rk (lt _ (by rw [rk]; decide))).1
  · show (h_i h' (h_r h' c 1) k).toInt = _
    rw [en]
    exact congrArg Int32.toInt (fq_e k f hn (List.mem_of_getElem? (i := 5) rfl) (List.mem_of_getElem? (i := 6) rfl) rn (lt _ (by rw [rn]; decide))).1
theorem ac_sameT {h h1 h2 : MH} {c : Nat} (e : ac_same h h1 c) (f : ac_same h1 h2 c) : ac_same h h2 c := ⟨f.1.trans e.1, ⟨f.2.1.1.trans e.2.1.1, f.2.1.2.trans e.2.1.2⟩, fun k => ⟨(f.2.2 k).1.trans (e.2.2 k).1, (f.2.2 k).2.trans (e.2.2 k).2⟩⟩
theorem ar_same {h h' : MH} {c : Nat} {S : RLS} (e : ac_same h h' c) (k : ar_q h c S) : ar_q h' c S := ⟨(congrArg Int32.toInt e.1).trans k.1, fun j hj => ⟨(e.2.2 j).1.trans (k.2 j hj).1, fun i hi => (e.2.2 _).2.trans ((k.2 j hj).2 i hi)⟩⟩
-- a row of acts copied: the copy, any other row
theorem ar_cp {h h' : MH} {c d : Nat} {S : RLS} (kc : ak_ok h c) (g40 : ls_g S ≤ 40) (p : cp_acts h c d h') (k : ar_q h d S) : ar_q h' c S := by
  obtain ⟨⟨-, -, p3⟩, p4⟩ := p
  obtain ⟨c1, ⟨c2, c3⟩, c4, c5⟩ := kc
  have er : ∀ x k, h_r h' x k = h_r h x k := fun x k => (p3 x k).2
  have n1 : h_r h c 1 ≠ h_r h c 0 := fun z => by rw [z, c3] at c5; cases c5
  have n2 : h_r h c 1 ≠ c := fun z => by
    have e := congrArg Prod.fst c5
    rw [z, c1] at e
    cases e
  have n3 : h_r h c 0 ≠ c := fun z => by
    have e := congrArg Prod.fst c3
    rw [z, c1] at e
    cases e
  refine ⟨?_, fun j hj => ⟨?_, fun i hi => ?_⟩⟩
  · unfold q_fd
    rw [p4, if_pos ⟨rfl, rfl⟩]
    exact k.1
  · unfold q_kd
    rw [er, p4, if_neg (fun z => n3 z.1), if_pos ⟨rfl, by omega⟩]
    exact (k.2 j hj).1
  · unfold q_nm
    rw [er, p4, if_neg (fun z => n2 z.1), if_neg (fun z => n1 z.1), if_pos ⟨rfl, by omega⟩]
    exact (k.2 j hj).2 i hi
theorem ac_cpO {h h' : MH} {c d b : Nat} (kc : ak_ok h c) (kb : ak_ok h b) (nb : b ≠ c) (n0 : h_r h b 0 ≠ h_r h c 0) (n1 : h_r h b 1 ≠ h_r h c 1) (p : cp_acts h c d h') : ac_same h h' b := by
  obtain ⟨⟨-, -, p3⟩, p4⟩ := p
  obtain ⟨c1, ⟨c2, c3⟩, c4, c5⟩ := kc
  obtain ⟨b1, ⟨b2, b3⟩, b4, b5⟩ := kb
  have er : ∀ x k, h_r h' x k = h_r h x k := fun x k => (p3 x k).2
  have ne : ∀ {x y : Nat} {a b : Nat × Nat}, h_k h x = a → h_k h y = b → a ≠ b → x ≠ y := fun {x y a b} e1 e2 n z => n (by rw [← e1, ← e2, z])
  have ne1 : ∀ {x y a b : Nat}, (h_k h x).1 = a → (h_k h y).1 = b → a ≠ b → x ≠ y := fun {x y a b} e1 e2 n z => n (by rw [← e1, ← e2, z])
  have f3 := congrArg Prod.fst c3
  have f5 := congrArg Prod.fst c5
  have g3 := congrArg Prod.fst b3
  have g5 := congrArg Prod.fst b5
  have st : ∀ x, x ≠ c → x ≠ h_r h c 0 → x ≠ h_r h c 1 → ∀ k, h_i h' x k = h_i h x k := fun x m1 m2 m3 k => by rw [p4, if_neg (fun z => m1 z.1), if_neg (fun z => m2 z.1), if_neg (fun z => m3 z.1)]
  refine ⟨st b nb (ne1 b1 f3 (by decide)) (ne1 b1 f5 (by decide)) 2, ⟨er _ _, er _ _⟩, fun k => ⟨?_, ?_⟩⟩
  · unfold q_kd
    rw [er, st _ (ne1 g3 c1 (by decide)) n0 (ne b3 c5 (by decide))]
  · unfold q_nm
    rw [er, st _ (ne1 g5 c1 (by decide)) (ne b5 c3 (by decide)) n1]
