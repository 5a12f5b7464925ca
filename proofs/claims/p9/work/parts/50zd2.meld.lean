-- THE PURE STORE: its shape; a store that goes on
def ps_sh (S : PSt) : Prop := ∀ v : Nat, v < ps_n S → (0 ≤ ps_k S v ∧ ps_k S v ≤ 5) ∧ ∀ r : Nat, (r : Int) < ps_k S v → 0 ≤ ps_b S (6 * v + r) ∧ ps_b S (6 * v + r) < (ps_n S : Int) ∧ ps_k S (ps_b S (6 * v + r)).toNat = (r : Int)
def ps_ex (S S' : PSt) : Prop := ps_n S ≤ ps_n S' ∧ ∀ v : Nat, v < ps_n S → ps_k S' v = ps_k S v ∧ ps_t S' v = ps_t S v ∧ ps_y S' v = ps_y S v ∧ ∀ j, j < 6 → ps_b S' (6 * v + j) = ps_b S (6 * v + j)
theorem ps_ex0 {S : PSt} : ps_ex S S := ⟨Nat.le_refl _, fun _ _ => ⟨rfl, rfl, rfl, fun _ _ => rfl⟩⟩
theorem ps_exT {S S1 S2 : PSt} (a : ps_ex S S1) (b : ps_ex S1 S2) : ps_ex S S2 := ⟨Nat.le_trans a.1 b.1, fun v hv => by
  obtain ⟨a1, a2, a3, a4⟩ := a.2 v hv
  obtain ⟨b1, b2, b3, b4⟩ := b.2 v (Nat.lt_of_lt_of_le hv a.1)
  exact ⟨b1.trans a1, b2.trans a2, b3.trans a3, fun j hj => (b4 j hj).trans (a4 j hj)⟩⟩
theorem ps_exM {S : PSt} {t y k l : Int} {f : Nat → Int} : ps_ex S (ps_le (ps_mk S t y k f) l) := ⟨Nat.le_succ _, fun v hv => ⟨m_uN _ _ _ _ (by omega), m_uN _ _ _ _ (by omega), m_uN _ _ _ _ (by omega), fun j hj => ps_mkB (t := t) (y := y) (k := k) (f := f) (by omega)⟩⟩
theorem hp_inE {S S' : PSt} {f : Nat → Int} (e : ps_ex S S') (h : hp_in S f) : hp_in S' f := fun r hr => by
  rcases h r hr with z | ⟨z1, z2, z3⟩
  · exact Or.inl z
  · exact Or.inr ⟨z1, by have := e.1; omega, by rw [(e.2 _ (by omega)).1]; exact z3⟩
theorem ps_lkS {S : PSt} {u d r : Int} (sh : ps_sh S) (u0 : 0 ≤ u) (u1 : u < (ps_n S : Int)) (d0 : 0 ≤ d) (d1 : d < (ps_n S : Int)) (ku : ps_k S u.toNat = r) (kd : ps_k S d.toNat = r) (r4 : r ≤ 4) : ps_sh (ps_lk S u d) ∧ ps_k (ps_lk S u d) (ps_n S) = r + 1 := by
  have r0 : 0 ≤ r := by
    have := (sh u.toNat (by omega)).1.1
    omega
  obtain ⟨n1, n2, n3, n4, n5⟩ := ps_lkN (S := S) (u := u) (d := d)
  have kn : ps_k (ps_lk S u d) (ps_n S) = r + 1 := by rw [n4, m_uE, ku]
  have ko : ∀ v : Nat, v < ps_n S → ps_k (ps_lk S u d) v = ps_k S v := fun v hv => by rw [n4, m_uN _ _ _ _ (by omega)]
  refine ⟨fun v hv => ?_, kn⟩
  rw [n1] at hv ⊢
  by_cases e : v = ps_n S
  · subst e
    refine ⟨by rw [kn]; omega, fun q hq => ?_⟩
    rw [kn] at hq
    rw [ps_lkC (by omega)]
    by_cases c : (q : Int) < ps_k S u.toNat
    · rw [if_pos c]
      obtain ⟨b0, b1, b2⟩ := (sh u.toNat (by omega)).2 q c
      exact ⟨b0, by omega, by rw [ko _ (by omega)]; exact b2⟩
    · rw [if_neg c]
      exact ⟨d0, by omega, by rw [ko _ (by omega), kd]; omega⟩
  · obtain ⟨a1, a2⟩ := sh v (by omega)
    refine ⟨by rw [ko v (by omega)]; exact a1, fun q hq => ?_⟩
    rw [ko v (by omega)] at hq
    obtain ⟨b0, b1, b2⟩ := a2 q hq
    rw [ps_lkB (by omega)]
    exact ⟨b0, by omega, by rw [ko _ (by omega)]; exact b2⟩
theorem ps_linkS {S : PSt} {a b r : Int} (sh : ps_sh S) (a0 : 0 ≤ a) (a1 : a < (ps_n S : Int)) (b0 : 0 ≤ b) (b1 : b < (ps_n S : Int)) (ka : ps_k S a.toNat = r) (kb : ps_k S b.toNat = r) (r4 : r ≤ 4) : ps_sh (ps_link S a b) ∧ ps_k (ps_link S a b) (ps_n S) = r + 1 := by
  unfold ps_link
  by_cases c : ps_ls S b a
  · rw [(ps_udT c).1, (ps_udT c).2]
    exact ps_lkS sh b0 b1 a0 a1 kb ka r4
  · rw [(ps_udF c).1, (ps_udF c).2]
    exact ps_lkS sh a0 a1 b0 b1 ka kb r4
theorem ps_linkE {S : PSt} {a b : Int} : ps_ex S (ps_link S a b) ∧ ps_n (ps_link S a b) = ps_n S + 1 := ⟨ps_exM, rfl⟩
-- the meld, rank by rank
def pm_I (S : PSt) (f s : Nat → Int) (r : Nat) (X : PXt) : Prop := (ps_sh X.1 ∧ hp_in X.1 X.2.1 ∧ (X.2.2 = -1 ∨ (0 ≤ X.2.2 ∧ X.2.2 < (ps_n X.1 : Int) ∧ ps_k X.1 X.2.2.toNat = (r : Int)))) ∧ (ps_ex S X.1 ∧ ps_n X.1 ≤ ps_n S + r) ∧ (∀ q, r ≤ q → X.2.1 q = f q) ∧ p_ws X.2.1 r + y_tg X.2.2 * 2 ^ r = p_ws f r + p_ws s r
theorem pm_wt {h f s : Nat → Int} {c y c' : Int} {r : Nat} (w : p_ws h r + y_tg c * 2 ^ r = p_ws f r + p_ws s r) (wt : y_tg y + 2 * y_tg c' = y_tg c + y_tg (f r) + y_tg (s r)) : p_ws (m_u h r y) (r + 1) + y_tg c' * 2 ^ (r + 1) = p_ws f (r + 1) + p_ws s (r + 1) := by
  rw [p_ws, p_ws, p_ws, m_uE, p_wsC (f := h) (fun j hj => m_uN _ _ _ _ (by omega)), Nat.pow_succ]
  have w2 := congrArg (· * 2 ^ r) wt
  simp only [Nat.add_mul] at w2
  have e1 : 2 * y_tg c' * 2 ^ r = y_tg c' * (2 ^ r * 2) := by
    rw [Nat.mul_comm 2 (y_tg c'), Nat.mul_assoc, Nat.mul_comm 2]
  omega
theorem pm_r4 {S : PSt} {f s : Nat → Int} {r : Nat} {X : PXt} (I : pm_I S f s r X) (r6 : r < 6) (w : p_ws f 6 + p_ws s 6 ≤ 63) (two : 2 ≤ y_tg X.2.2 + y_tg (f r) + y_tg (s r)) : r ≤ 4 := by
  by_cases e : r = 5
  · subst e
    exfalso
    have w5 := I.2.2.2
    have a : p_ws f 6 = p_ws f 5 + y_tg (f 5) * 2 ^ 5 := rfl
    have b : p_ws s 6 = p_ws s 5 + y_tg (s 5) * 2 ^ 5 := rfl
    have e : (2 : Nat) ^ 5 = 32 := by decide
    rw [e] at w5 a b
    omega
  · omega
theorem pm_hp {S : PSt} {h : Nat → Int} {r : Nat} {y : Int} (hh : hp_in S h) (py : y = -1 ∨ (0 ≤ y ∧ y < (ps_n S : Int) ∧ ps_k S y.toNat = (r : Int))) : hp_in S (m_u h r y) := fun q hq => by
  by_cases e : q = r
  · rw [e, m_uE]
    exact py
  · rw [m_uN _ _ _ _ e]
    exact hh q hq
theorem pm_Ilk {S : PSt} {f s : Nat → Int} {r : Nat} {X : PXt} {a b y : Int} (I : pm_I S f s r X) (na : 0 ≤ a ∧ a < (ps_n X.1 : Int) ∧ ps_k X.1 a.toNat = (r : Int)) (nb : 0 ≤ b ∧ b < (ps_n X.1 : Int) ∧ ps_k X.1 b.toNat = (r : Int)) (py : y = -1 ∨ (0 ≤ y ∧ y < (ps_n X.1 : Int) ∧ ps_k X.1 y.toNat = (r : Int))) (wt : y_tg y + 2 = y_tg X.2.2 + y_tg (f r) + y_tg (s r)) (r4 : r ≤ 4) : pm_I S f s (r + 1) (ps_link X.1 a b, m_u X.2.1 r y, (ps_n X.1 : Int)) := by
  obtain ⟨⟨i1, i2, i3⟩, ⟨i4, i5⟩, i6, i7⟩ := I
  obtain ⟨l1, l2⟩ := ps_linkS i1 na.1 na.2.1 nb.1 nb.2.1 na.2.2 nb.2.2 (by omega)
  obtain ⟨x1, x2⟩ := ps_linkE (S := X.1) (a := a) (b := b)
  refine ⟨⟨l1, hp_inE x1 (pm_hp i2 py), Or.inr ⟨Int.natCast_nonneg _, by show (ps_n X.1 : Int) < (ps_n (ps_link X.1 a b) : Int); omega, ?_⟩⟩, ⟨ps_exT i4 x1, by show ps_n (ps_link X.1 a b) ≤ _; omega⟩, fun q hq => ?_, ?_⟩
  · rw [Int.toNat_natCast, l2]
    omega
  · show m_u X.2.1 r y q = _
    rw [m_uN _ _ _ _ (by omega)]
    exact i6 q (by omega)
  · exact pm_wt (c' := (ps_n X.1 : Int)) i7 (by rw [y_tg1 (x := (ps_n X.1 : Int)) (by omega)]; omega)
theorem pm_Ino {S : PSt} {f s : Nat → Int} {r : Nat} {X : PXt} {y : Int} (I : pm_I S f s r X) (py : y = -1 ∨ (0 ≤ y ∧ y < (ps_n X.1 : Int) ∧ ps_k X.1 y.toNat = (r : Int))) (wt : y_tg y = y_tg X.2.2 + y_tg (f r) + y_tg (s r)) : pm_I S f s (r + 1) (X.1, m_u X.2.1 r y, -1) := by
  obtain ⟨⟨i1, i2, i3⟩, ⟨i4, i5⟩, i6, i7⟩ := I
  refine ⟨⟨i1, pm_hp i2 py, Or.inl rfl⟩, ⟨i4, by show ps_n X.1 ≤ _; omega⟩, fun q hq => ?_, ?_⟩
  · show m_u X.2.1 r y q = _
    rw [m_uN _ _ _ _ (by omega)]
    exact i6 q (by omega)
  · exact pm_wt (c' := -1) i7 (by have : y_tg (-1) = 0 := rfl; omega)
theorem pm_I0 {S : PSt} {f s : Nat → Int} (sh : ps_sh S) (hf : hp_in S f) : pm_I S f s 0 (S, f, -1) := ⟨⟨sh, hf, Or.inl rfl⟩, ⟨ps_ex0, Nat.le_refl _⟩, fun _ _ => rfl, rfl⟩
theorem pm_Is {S : PSt} {f s : Nat → Int} {r : Nat} {X : PXt} (I : pm_I S f s r X) (hs : hp_in S s) (r6 : r < 6) : s r = -1 ∨ (0 ≤ s r ∧ s r < (ps_n X.1 : Int) ∧ ps_k X.1 (s r).toNat = (r : Int)) := hp_inE I.2.1.1 hs r r6
theorem pm_If {S : PSt} {f s : Nat → Int} {r : Nat} {X : PXt} (I : pm_I S f s r X) (r6 : r < 6) : f r = -1 ∨ (0 ≤ f r ∧ f r < (ps_n X.1 : Int) ∧ ps_k X.1 (f r).toNat = (r : Int)) := by
  rw [← I.2.2.1 r (Nat.le_refl _)]
  exact I.1.2.1 r r6
theorem pm_step {S : PSt} {f s : Nat → Int} {r : Nat} {X : PXt} (I : pm_I S f s r X) (hs : hp_in S s) (r6 : r < 6) (w : p_ws f 6 + p_ws s 6 ≤ 63) : pm_I S f s (r + 1) (pm_st s X r) := by
  have t0 : y_tg (-1) = 0 := rfl
  have ef := I.2.2.1 r (Nat.le_refl _)
  have pf := pm_If I r6
  have pq := pm_Is I hs r6
  have pc := I.1.2.2
  by_cases cf : f r = -1 <;> by_cases cs : s r = -1 <;> by_cases cc : X.2.2 = -1
  · have a := y_tg0 cf; have b := y_tg0 cs; have c := y_tg0 cc
    rw [pm_st3 (a := f r) (b := s r) (c := X.2.2) (o := s r) (y := s r) ef rfl rfl (fun z => z.1 cf) (pm_oneT cf) (fun z => z.1 cc) (pm_oneT cc)]
    exact pm_Ino I pq (by omega)
  · have a := y_tg0 cf; have b := y_tg0 cs; have c := y_tg1 cc
    rw [pm_st3 (a := f r) (b := s r) (c := X.2.2) (o := s r) (y := X.2.2) ef rfl rfl (fun z => z.1 cf) (pm_oneT cf) (fun z => z.2 cs) (pm_oneF cc)]
    exact pm_Ino I pc (by omega)
  · have a := y_tg0 cf; have b := y_tg1 cs; have c := y_tg0 cc
    rw [pm_st3 (a := f r) (b := s r) (c := X.2.2) (o := s r) (y := s r) ef rfl rfl (fun z => z.1 cf) (pm_oneT cf) (fun z => z.1 cc) (pm_oneT cc)]
    exact pm_Ino I pq (by omega)
  · have a := y_tg0 cf; have b := y_tg1 cs; have c := y_tg1 cc
    rw [pm_st2 (a := f r) (b := s r) (c := X.2.2) (o := s r) ef rfl rfl (fun z => z.1 cf) cc (pm_oneT cf) cs]
    exact pm_Ilk I (pc.resolve_left cc) (pq.resolve_left cs) (Or.inl rfl) (by omega) (pm_r4 I r6 w (by omega))
  · have a := y_tg1 cf; have b := y_tg0 cs; have c := y_tg0 cc
    rw [pm_st3 (a := f r) (b := s r) (c := X.2.2) (o := f r) (y := f r) ef rfl rfl (fun z => z.2 cs) (pm_oneF cf) (fun z => z.1 cc) (pm_oneT cc)]
    exact pm_Ino I pf (by omega)
  · have a := y_tg1 cf; have b := y_tg0 cs; have c := y_tg1 cc
    rw [pm_st2 (a := f r) (b := s r) (c := X.2.2) (o := f r) ef rfl rfl (fun z => z.2 cs) cc (pm_oneF cf) cf]
    exact pm_Ilk I (pc.resolve_left cc) (pf.resolve_left cf) (Or.inl rfl) (by omega) (pm_r4 I r6 w (by omega))
  · have a := y_tg1 cf; have b := y_tg1 cs; have c := y_tg0 cc
    rw [pm_st1 (a := f r) (b := s r) (y := X.2.2) ef rfl rfl cf cs]
    exact pm_Ilk I (pf.resolve_left cf) (pq.resolve_left cs) pc (by omega) (pm_r4 I r6 w (by omega))
  · have a := y_tg1 cf; have b := y_tg1 cs; have c := y_tg1 cc
    rw [pm_st1 (a := f r) (b := s r) (y := X.2.2) ef rfl rfl cf cs]
    exact pm_Ilk I (pf.resolve_left cf) (pq.resolve_left cs) pc (by omega) (pm_r4 I r6 w (by omega))
theorem pm_runI {S : PSt} {f s : Nat → Int} (sh : ps_sh S) (hf : hp_in S f) (hs : hp_in S s) (w : p_ws f 6 + p_ws s 6 ≤ 63) : ∀ r, r ≤ 6 → pm_I S f s r (pm_run s (S, f, -1) r)
  | 0, _ => pm_I0 sh hf
  | r + 1, h => pm_step (pm_runI sh hf hs w r (by omega)) hs (by omega) w
-- what a meld leaves
theorem pm_mdI {S : PSt} {f s : Nat → Int} (sh : ps_sh S) (hf : hp_in S f) (hs : hp_in S s) (w : p_ws f 6 + p_ws s 6 ≤ 63) : ps_sh (pm_md S f s).1 ∧ hp_in (pm_md S f s).1 (pm_md S f s).2 ∧ ps_ex S (pm_md S f s).1 ∧ ps_n (pm_md S f s).1 ≤ ps_n S + 6 ∧ p_ws (pm_md S f s).2 6 = p_ws f 6 + p_ws s 6 := by
  obtain ⟨⟨i1, i2, i3⟩, ⟨i4, i5⟩, i6, i7⟩ := pm_runI sh hf hs w 6 (Nat.le_refl _)
  refine ⟨i1, i2, i4, i5, ?_⟩
  have e : y_tg (pm_run s (S, f, -1) 6).2.2 = 0 := by
    by_cases c : y_tg (pm_run s (S, f, -1) 6).2.2 = 0
    · exact c
    · exfalso
      have : (2 : Nat) ^ 6 = 64 := by decide
      rw [this] at i7
      omega
  rw [e] at i7
  show p_ws (pm_run s (S, f, -1) 6).2.1 6 = _
  omega
-- THE CLASS'S NODES: one more
theorem cs_mk {h0 h1 : MH} {H H1 : Nat → Nat → Int} {nd : Nat} {S : PSt} {t y k l : Int} {f : Nat → Int} (I : cs_of h0 H nd S) (n1 : ps_n S ≤ 15999) (h5 : H1 nd 5 = (ps_n S : Int) + 1) (h6 : H1 nd 6 = l) (l0 : 0 ≤ l) (l1 : l ≤ (ps_n S : Int) + 1) (old : ∀ j : Nat, j < 7 * ps_n S → H1 (h_r h1 nd 0) j = H (h_r h0 nd 0) j) (t0 : 0 ≤ t) (t1 : t ≤ 127) (y0 : 0 ≤ y) (y1 : y ≤ 99) (k0 : 0 ≤ k) (k5 : k ≤ 5) (w : H1 (h_r h1 nd 0) (7 * ps_n S) = 128 * y + t) (rk : H1 (h_r h1 nd 0) (7 * ps_n S + 1) = k) (ch : ∀ r : Nat, (r : Int) < k → H1 (h_r h1 nd 0) (7 * ps_n S + 2 + (k.toNat - 1 - r)) = f r) : cs_of h1 H1 nd (ps_le (ps_mk S t y k f) l) := by
  obtain ⟨i1, i2, i3, i4, i5⟩ := I
  obtain ⟨n1_, n2, n3, n4, n5⟩ := ps_mkN (S := S) (t := t) (y := y) (k := k) (f := f)
  refine ⟨?_, h6, ⟨l0, ?_⟩, ?_, fun v hv => ?_⟩
  · show H1 nd 5 = ((ps_n S + 1 : Nat) : Int)
    omega
  · show l ≤ ((ps_n S + 1 : Nat) : Int)
    omega
  · show ps_n S + 1 ≤ 16000
    omega
  · have hv : v < ps_n S + 1 := hv
    show H1 (h_r h1 nd 0) (7 * v) = 128 * (m_u (ps_y S) (ps_n S) y v) + (m_u (ps_t S) (ps_n S) t v) ∧ (0 ≤ m_u (ps_t S) (ps_n S) t v ∧ m_u (ps_t S) (ps_n S) t v ≤ 127) ∧ (0 ≤ m_u (ps_y S) (ps_n S) y v ∧ m_u (ps_y S) (ps_n S) y v ≤ 99) ∧ H1 (h_r h1 nd 0) (7 * v + 1) = m_u (ps_k S) (ps_n S) k v ∧ (0 ≤ m_u (ps_k S) (ps_n S) k v ∧ m_u (ps_k S) (ps_n S) k v ≤ 5) ∧ ∀ r : Nat, (r : Int) < m_u (ps_k S) (ps_n S) k v → H1 (h_r h1 nd 0) (7 * v + 2 + ((m_u (ps_k S) (ps_n S) k v).toNat - 1 - r)) = ps_b (ps_mk S t y k f) (6 * v + r)
    by_cases e : v = ps_n S
    · subst e
      rw [m_uE, m_uE, m_uE]
      exact ⟨w, ⟨t0, t1⟩, ⟨y0, y1⟩, rk, ⟨k0, k5⟩, fun r hr => by rw [ps_mkC (by omega)]; exact ch r hr⟩
    · rw [m_uN _ _ _ _ e, m_uN _ _ _ _ e, m_uN _ _ _ _ e]
      obtain ⟨a1, a2, a3, a4, a5, a6⟩ := i5 v (by omega)
      exact ⟨by rw [old _ (by omega)]; exact a1, a2, a3, by rw [old _ (by omega)]; exact a4, a5, fun r hr => by rw [ps_mkB (by omega), old _ (by omega)]; exact a6 r hr⟩
-- the same store, seen where it stands
theorem cs_mv {h0 h1 : MH} {H H1 : Nat → Nat → Int} {nd : Nat} {S : PSt} (I : cs_of h0 H nd S) (h5 : H1 nd 5 = H nd 5) (h6 : H1 nd 6 = H nd 6) (old : ∀ j : Nat, j < 7 * ps_n S → H1 (h_r h1 nd 0) j = H (h_r h0 nd 0) j) : cs_of h1 H1 nd S := by
  obtain ⟨i1, i2, i3, i4, i5⟩ := I
  refine ⟨h5.trans i1, h6.trans i2, i3, i4, fun v hv => ?_⟩
  obtain ⟨a1, a2, a3, a4, a5, a6⟩ := i5 v hv
  exact ⟨by rw [old _ (by omega)]; exact a1, a2, a3, by rw [old _ (by omega)]; exact a4, a5, fun r hr => by rw [old _ (by omega)]; exact a6 r hr⟩
-- the links alone set anew
theorem cs_le {h0 h1 : MH} {H H1 : Nat → Nat → Int} {nd : Nat} {S : PSt} {l : Int} (I : cs_of h0 H nd S) (h5 : H1 nd 5 = H nd 5) (h6 : H1 nd 6 = l) (l0 : 0 ≤ l) (l1 : l ≤ (ps_n S : Int)) (old : ∀ j : Nat, j < 7 * ps_n S → H1 (h_r h1 nd 0) j = H (h_r h0 nd 0) j) : cs_of h1 H1 nd (ps_le S l) := by
  obtain ⟨i1, i2, i3, i4, i5⟩ := I
  refine ⟨h5.trans i1, h6, ⟨l0, l1⟩, i4, fun v hv => ?_⟩
  have hv : v < ps_n S := hv
  obtain ⟨a1, a2, a3, a4, a5, a6⟩ := i5 v hv
  exact ⟨by rw [old _ (by omega)]; exact a1, a2, a3, by rw [old _ (by omega)]; exact a4, a5, fun r hr => by
    have hr : (r : Int) < ps_k S v := hr
    show H1 (h_r h1 nd 0) (7 * v + 2 + ((ps_k S v).toNat - 1 - r)) = ps_b S (6 * v + r)
    rw [old _ (by omega)]
    exact a6 r hr⟩
theorem nl_nd {h : MH} {nd : Nat} {n : Nat} (ok : nl_ok h nd) (e : z_i h nd 5 = (n : Int)) : nd_ok h nd n := ⟨⟨ok.1.1, ok.1.2.1⟩, ⟨ok.2.1.1, ok.2.1.2.1⟩, by
  obtain ⟨-, -, -, l1, ⟨m0, m1⟩, -⟩ := ok
  omega⟩
section
variable {lv : List (Nat × Value)} {Q : Option Value → MH → Prop} {h0 h : MH} {H : Nat → Nat → Int}
theorem r_li0 {nd : Nat} {a b : Int} (M : RX h0 h H) (e0 : m_lk lv 0 = some (.ref nd)) {lx1 : Int32} (e1 : m_lk lv 1 = some (.int lx1)) (lq1 : lx1.toInt = a) {lx2 : Int32} (e2 : m_lk lv 2 = some (.int lx2)) (lq2 : lx2.toInt = b)  (hs0 : 16 ≤ nd) (hk0 : (h_k h0 nd).1 = 3)
    (g0 : HJ 66 0 (lv_args 0 [.ref nd, .int lx2]) [] h (fun v h' => HJ 65 5 lv (v.toList ++ []) h' Q))
    : HJ 65 0 lv [] h Q := by
  refine hI_al (k := 0) rfl e0 rfl ?_ -- 0
  refine hI_il (k := 2) rfl e2 rfl ?_ -- 1
  refine HJ.call (j := 66) (as := [.ref nd, .int lx2]) (rr := []) (pc' := 5) (m_cR (kc := 2) rfl rfl (by decide +kernel) rfl rfl rfl ⟨rfl, by decide +kernel, by decide +kernel⟩ (by decide) hs0 (by rw [M.2.1]; exact hk0)) (by show 2 ≤ m_lc 66; decide +kernel) ?_ -- 2
  exact g0 
theorem r_li5 {nd : Nat} {a b w : Int} (M : RX h0 h H) (e0 : m_lk lv 0 = some (.ref nd)) {lx1 : Int32} (e1 : m_lk lv 1 = some (.int lx1)) (lq1 : lx1.toInt = a) {lx2 : Int32} (e2 : m_lk lv 2 = some (.int lx2)) (lq2 : lx2.toInt = b) {sx0 : Int32} (sq0 : sx0.toInt = w)  (hs0 : 16 ≤ nd) (hk0 : (h_k h0 nd).1 = 3)
    (g0 : HJ 66 0 (lv_args 0 [.ref nd, .int lx1]) [] h (fun v h' => HJ 65 10 lv (v.toList ++ [.int sx0]) h' Q))
    : HJ 65 5 lv [.int sx0] h Q := by
  refine hI_al (k := 0) rfl e0 rfl ?_ -- 5
  refine hI_il (k := 1) rfl e1 rfl ?_ -- 6
  refine HJ.call (j := 66) (as := [.ref nd, .int lx1]) (rr := [.int sx0]) (pc' := 10) (m_cR (kc := 2) rfl rfl (by decide +kernel) rfl rfl rfl ⟨rfl, by decide +kernel, by decide +kernel⟩ (by decide) hs0 (by rw [M.2.1]; exact hk0)) (by show 2 ≤ m_lc 66; decide +kernel) ?_ -- 7
  exact g0 
theorem r_li10 {nd : Nat} {a b w v : Int} (M : RX h0 h H) (e0 : m_lk lv 0 = some (.ref nd)) {lx1 : Int32} (e1 : m_lk lv 1 = some (.int lx1)) (lq1 : lx1.toInt = a) {lx2 : Int32} (e2 : m_lk lv 2 = some (.int lx2)) (lq2 : lx2.toInt = b) {sx0 : Int32} (sq0 : sx0.toInt = w) {sx1 : Int32} (sq1 : sx1.toInt = v)  (hs0 : 16 ≤ nd) (hk0 : (h_k h0 nd).1 = 3)
    (g0 : ∀ x1 : Int32, x1.toInt = 0 → ∀ lv3 : List (Nat × Value), m_lk lv3 0 = some (.ref nd) → m_lk lv3 1 = some (.int lx1) → m_lk lv3 2 = some (.int lx2) → m_lk lv3 3 = some (.int x1) → m_lk lv3 4 = some (.int lx1) → w ≥ v → HJ 67 0 (lv_args 0 [.ref nd, .int lx1]) [] h (fun v h' => HJ 65 36 lv3 (v.toList ++ []) h' Q))
    (g1 : ∀ x4 : Int32, x4.toInt = 1 → ∀ lv6 : List (Nat × Value), m_lk lv6 0 = some (.ref nd) → m_lk lv6 1 = some (.int lx1) → m_lk lv6 2 = some (.int lx2) → m_lk lv6 3 = some (.int x4) → m_lk lv6 4 = some (.int lx2) → w < v → HJ 67 0 (lv_args 0 [.ref nd, .int lx2]) [] h (fun v h' => HJ 65 36 lv6 (v.toList ++ []) h' Q))
    : HJ 65 10 lv [.int sx1, .int sx0] h Q := by
  refine hM_cge (off := 7) (t := 17) rfl sq0 sq1 (by decide) rfl (fun c10 => ?_) (fun c10 => ?_) -- 10
  · refine hM_ic (n := 0) rfl (by decide) rfl (fun x1 q1 => ?_) -- 17
    refine hM_si (k := 3) rfl (by decide +kernel) rfl (fun lv2 e2_3 u2 => ?_) -- 18
    have e2_0 := u2 0 _ (by decide) (Or.inl rfl) e0
    have e2_1 := u2 1 _ (by decide) (Or.inl rfl) e1
    have e2_2 := u2 2 _ (by decide) (Or.inl rfl) e2
    refine hI_il (k := 3) rfl e2_3 rfl ?_ -- 19
    refine hM_zeq (off := 7) (t := 27) rfl q1 (by decide) rfl (fun c20 => ?_) (fun c20 => ?_) -- 20
    · refine hI_il (k := 1) rfl e2_1 rfl ?_ -- 27
      refine hM_si2 (k := 4) rfl (by decide +kernel) rfl (fun lv3 e3_4 u3 => ?_) -- 28
      have e3_0 := u3 0 _ (by decide) (Or.inl rfl) e2_0
      have e3_1 := u3 1 _ (by decide) (Or.inl rfl) e2_1
      have e3_2 := u3 2 _ (by decide) (Or.inl rfl) e2_2
      have e3_3 := u3 3 _ (by decide) (Or.inl rfl) e2_3
      refine hI_al (k := 0) rfl e3_0 rfl ?_ -- 30
      refine hI_il2 (k := 4) rfl e3_4 rfl ?_ -- 31
      refine HJ.call (j := 67) (as := [.ref nd, .int lx1]) (rr := []) (pc' := 36) (m_cR (kc := 2) rfl rfl (by decide +kernel) rfl rfl rfl ⟨rfl, by decide +kernel, by decide +kernel⟩ (by decide) hs0 (by rw [M.2.1]; exact hk0)) (by show 2 ≤ m_lc 67; decide +kernel) ?_ -- 33
      exact g0 x1 q1 lv3 e3_0 e3_1 e3_2 e3_3 e3_4 c10
    · exfalso; omega
  · refine hM_ic (n := 1) rfl (by decide) rfl (fun x4 q4 => ?_) -- 13
    refine hI_go (pc' := 18) (off := 4) rfl (by decide) ?_ -- 14
    refine hM_si (k := 3) rfl (by decide +kernel) rfl (fun lv5 e5_3 u5 => ?_) -- 18
    have e5_0 := u5 0 _ (by decide) (Or.inl rfl) e0
    have e5_1 := u5 1 _ (by decide) (Or.inl rfl) e1
    have e5_2 := u5 2 _ (by decide) (Or.inl rfl) e2
    refine hI_il (k := 3) rfl e5_3 rfl ?_ -- 19
    refine hM_zeq (off := 7) (t := 27) rfl q4 (by decide) rfl (fun c20 => ?_) (fun c20 => ?_) -- 20
    · exfalso; omega
    · refine hI_il (k := 2) rfl e5_2 rfl ?_ -- 23
      refine hI_go (pc' := 28) (off := 4) rfl (by decide) ?_ -- 24
      refine hM_si2 (k := 4) rfl (by decide +kernel) rfl (fun lv6 e6_4 u6 => ?_) -- 28
      have e6_0 := u6 0 _ (by decide) (Or.inl rfl) e5_0
      have e6_1 := u6 1 _ (by decide) (Or.inl rfl) e5_1
      have e6_2 := u6 2 _ (by decide) (Or.inl rfl) e5_2
      have e6_3 := u6 3 _ (by decide) (Or.inl rfl) e5_3
      refine hI_al (k := 0) rfl e6_0 rfl ?_ -- 30
      refine hI_il2 (k := 4) rfl e6_4 rfl ?_ -- 31
      refine HJ.call (j := 67) (as := [.ref nd, .int lx2]) (rr := []) (pc' := 36) (m_cR (kc := 2) rfl rfl (by decide +kernel) rfl rfl rfl ⟨rfl, by decide +kernel, by decide +kernel⟩ (by decide) hs0 (by rw [M.2.1]; exact hk0)) (by show 2 ≤ m_lc 67; decide +kernel) ?_ -- 33
      exact g1 x4 q4 lv6 e6_0 e6_1 e6_2 e6_3 e6_4 c10
theorem r_li36 {nd : Nat} {a b t u k : Int} (M : RX h0 h H) (e0 : m_lk lv 0 = some (.ref nd)) {lx1 : Int32} (e1 : m_lk lv 1 = some (.int lx1)) (lq1 : lx1.toInt = a) {lx2 : Int32} (e2 : m_lk lv 2 = some (.int lx2)) (lq2 : lx2.toInt = b) {lx3 : Int32} (e3 : m_lk lv 3 = some (.int lx3)) (lq3 : lx3.toInt = t) {lx4 : Int32} (e4 : m_lk lv 4 = some (.int lx4)) (lq4 : lx4.toInt = u) {sx0 : Int32} (sq0 : sx0.toInt = k)  (hs0 : 16 ≤ nd) (hk0 : (h_k h0 nd).1 = 3)
    (g0 : ∀ lv1 : List (Nat × Value), m_lk lv1 0 = some (.ref nd) → m_lk lv1 1 = some (.int lx1) → m_lk lv1 2 = some (.int lx2) → m_lk lv1 3 = some (.int lx3) → m_lk lv1 4 = some (.int lx4) → m_lk lv1 5 = some (.int sx0) → HJ 66 0 (lv_args 0 [.ref nd, .int lx4]) [] h (fun v h' => HJ 65 45 lv1 (v.toList ++ [.ref nd]) h' Q))
    : HJ 65 36 lv [.int sx0] h Q := by
  refine hM_si2 (k := 5) rfl (by decide +kernel) rfl (fun lv1 e1_5 u1 => ?_) -- 36
  have e1_0 := u1 0 _ (by decide) (Or.inl rfl) e0
  have e1_1 := u1 1 _ (by decide) (Or.inl rfl) e1
  have e1_2 := u1 2 _ (by decide) (Or.inl rfl) e2
  have e1_3 := u1 3 _ (by decide) (Or.inl rfl) e3
  have e1_4 := u1 4 _ (by decide) (Or.inl rfl) e4
  refine hI_al (k := 0) rfl e1_0 rfl ?_ -- 38
  refine hI_al (k := 0) rfl e1_0 rfl ?_ -- 39
  refine hI_il2 (k := 4) rfl e1_4 rfl ?_ -- 40
  refine HJ.call (j := 66) (as := [.ref nd, .int lx4]) (rr := [.ref nd]) (pc' := 45) (m_cR (kc := 2) rfl rfl (by decide +kernel) rfl rfl rfl ⟨rfl, by decide +kernel, by decide +kernel⟩ (by decide) hs0 (by rw [M.2.1]; exact hk0)) (by show 2 ≤ m_lc 66; decide +kernel) ?_ -- 42
  exact g0 lv1 e1_0 e1_1 e1_2 e1_3 e1_4 e1_5
theorem r_li45 {nd : Nat} {a b t u k w : Int} (M : RX h0 h H) (e0 : m_lk lv 0 = some (.ref nd)) {lx1 : Int32} (e1 : m_lk lv 1 = some (.int lx1)) (lq1 : lx1.toInt = a) {lx2 : Int32} (e2 : m_lk lv 2 = some (.int lx2)) (lq2 : lx2.toInt = b) {lx3 : Int32} (e3 : m_lk lv 3 = some (.int lx3)) (lq3 : lx3.toInt = t) {lx4 : Int32} (e4 : m_lk lv 4 = some (.int lx4)) (lq4 : lx4.toInt = u) {lx5 : Int32} (e5 : m_lk lv 5 = some (.int lx5)) (lq5 : lx5.toInt = k) {sx1 : Int32} (sq1 : sx1.toInt = w) (k0 : 0 ≤ k) (k1 : k ≤ 5) (hs0 : 16 ≤ nd) (hk0 : (h_k h0 nd).1 = 3)
    (g0 : ∀ x2 : Int32, x2.toInt = k + 1 → HJ 61 0 (lv_args 0 [.ref nd, .int sx1, .int x2]) [] h (fun v h' => HJ 65 52 lv (v.toList ++ []) h' Q))
    : HJ 65 45 lv [.int sx1, .ref nd] h Q := by
  refine hI_il2 (k := 5) rfl e5 rfl ?_ -- 45
  refine hM_ic (n := 1) rfl (by decide) rfl (fun x1 q1 => ?_) -- 47
  refine hM_add rfl lq5 q1 (by omega) (by omega) rfl (fun x2 q2 => ?_) -- 48
  refine HJ.call (j := 61) (as := [.ref nd, .int sx1, .int x2]) (rr := []) (pc' := 52) (m_cR (kc := 2) rfl rfl (by decide +kernel) rfl rfl rfl ⟨rfl, by decide +kernel, by decide +kernel⟩ (by decide) hs0 (by rw [M.2.1]; exact hk0)) (by show 3 ≤ m_lc 61; decide +kernel) ?_ -- 49
  exact g0 x2 q2
theorem r_li52 {nd : Nat} {a b t u k n : Int} (M : RX h0 h H) (e0 : m_lk lv 0 = some (.ref nd)) {lx1 : Int32} (e1 : m_lk lv 1 = some (.int lx1)) (lq1 : lx1.toInt = a) {lx2 : Int32} (e2 : m_lk lv 2 = some (.int lx2)) (lq2 : lx2.toInt = b) {lx3 : Int32} (e3 : m_lk lv 3 = some (.int lx3)) (lq3 : lx3.toInt = t) {lx4 : Int32} (e4 : m_lk lv 4 = some (.int lx4)) (lq4 : lx4.toInt = u) {lx5 : Int32} (e5 : m_lk lv 5 = some (.int lx5)) (lq5 : lx5.toInt = k) {sx0 : Int32} (sq0 : sx0.toInt = n)  (hs0 : 16 ≤ nd) (hk0 : (h_k h0 nd).1 = 3)
    (g0 : ∀ x2 : Int32, x2.toInt = 0 → ∀ lv1 : List (Nat × Value), m_lk lv1 0 = some (.ref nd) → m_lk lv1 1 = some (.int lx1) → m_lk lv1 2 = some (.int lx2) → m_lk lv1 3 = some (.int lx3) → m_lk lv1 4 = some (.int lx4) → m_lk lv1 5 = some (.int lx5) → m_lk lv1 6 = some (.int sx0) → t = 0 → HJ 68 0 (lv_args 0 [.ref nd, .int sx0, .int x2, .int lx2]) [] h (fun v h' => HJ 65 70 lv1 (v.toList ++ []) h' Q))
    (g1 : ∀ x2 : Int32, x2.toInt = 0 → ∀ lv1 : List (Nat × Value), m_lk lv1 0 = some (.ref nd) → m_lk lv1 1 = some (.int lx1) → m_lk lv1 2 = some (.int lx2) → m_lk lv1 3 = some (.int lx3) → m_lk lv1 4 = some (.int lx4) → m_lk lv1 5 = some (.int lx5) → m_lk lv1 6 = some (.int sx0) → t ≠ 0 → HJ 68 0 (lv_args 0 [.ref nd, .int sx0, .int x2, .int lx1]) [] h (fun v h' => HJ 65 70 lv1 (v.toList ++ []) h' Q))
    : HJ 65 52 lv [.int sx0] h Q := by
  refine hM_si2 (k := 6) rfl (by decide +kernel) rfl (fun lv1 e1_6 u1 => ?_) -- 52
  have e1_0 := u1 0 _ (by decide) (Or.inl rfl) e0
  have e1_1 := u1 1 _ (by decide) (Or.inl rfl) e1
  have e1_2 := u1 2 _ (by decide) (Or.inl rfl) e2
  have e1_3 := u1 3 _ (by decide) (Or.inl rfl) e3
  have e1_4 := u1 4 _ (by decide) (Or.inl rfl) e4
  have e1_5 := u1 5 _ (by decide) (Or.inl rfl) e5
  refine hI_al (k := 0) rfl e1_0 rfl ?_ -- 54
  refine hI_il2 (k := 6) rfl e1_6 rfl ?_ -- 55
  refine hM_ic (n := 0) rfl (by decide) rfl (fun x2 q2 => ?_) -- 57
  refine hI_il (k := 3) rfl e1_3 rfl ?_ -- 58
  refine hM_zeq (off := 7) (t := 66) rfl lq3 (by decide) rfl (fun c59 => ?_) (fun c59 => ?_) -- 59
  · refine hI_il (k := 2) rfl e1_2 rfl ?_ -- 66
    refine HJ.call (j := 68) (as := [.ref nd, .int sx0, .int x2, .int lx2]) (rr := []) (pc' := 70) (m_cR (kc := 2) rfl rfl (by decide +kernel) rfl rfl rfl ⟨rfl, by decide +kernel, by decide +kernel⟩ (by decide) hs0 (by rw [M.2.1]; exact hk0)) (by show 4 ≤ m_lc 68; decide +kernel) ?_ -- 67
    exact g0 x2 q2 lv1 e1_0 e1_1 e1_2 e1_3 e1_4 e1_5 e1_6 c59
  · refine hI_il (k := 1) rfl e1_1 rfl ?_ -- 62
    refine hI_go (pc' := 67) (off := 4) rfl (by decide) ?_ -- 63
    refine HJ.call (j := 68) (as := [.ref nd, .int sx0, .int x2, .int lx1]) (rr := []) (pc' := 70) (m_cR (kc := 2) rfl rfl (by decide +kernel) rfl rfl rfl ⟨rfl, by decide +kernel, by decide +kernel⟩ (by decide) hs0 (by rw [M.2.1]; exact hk0)) (by show 4 ≤ m_lc 68; decide +kernel) ?_ -- 67
    exact g1 x2 q2 lv1 e1_0 e1_1 e1_2 e1_3 e1_4 e1_5 e1_6 c59
theorem r_li70 {nd : Nat} {a b t u k n : Int} (M : RX h0 h H) (e0 : m_lk lv 0 = some (.ref nd)) {lx1 : Int32} (e1 : m_lk lv 1 = some (.int lx1)) (lq1 : lx1.toInt = a) {lx2 : Int32} (e2 : m_lk lv 2 = some (.int lx2)) (lq2 : lx2.toInt = b) {lx3 : Int32} (e3 : m_lk lv 3 = some (.int lx3)) (lq3 : lx3.toInt = t) {lx4 : Int32} (e4 : m_lk lv 4 = some (.int lx4)) (lq4 : lx4.toInt = u) {lx5 : Int32} (e5 : m_lk lv 5 = some (.int lx5)) (lq5 : lx5.toInt = k) {lx6 : Int32} (e6 : m_lk lv 6 = some (.int lx6)) (lq6 : lx6.toInt = n) 
    (g0 : ∀ x1 : Int32, x1.toInt = 0 → ∀ lv2 : List (Nat × Value), m_lk lv2 0 = some (.ref nd) → m_lk lv2 1 = some (.int lx1) → m_lk lv2 2 = some (.int lx2) → m_lk lv2 3 = some (.int lx3) → m_lk lv2 4 = some (.int lx4) → m_lk lv2 5 = some (.int lx5) → m_lk lv2 6 = some (.int lx6) → m_lk lv2 7 = some (.int x1) → HJ 65 73 lv2 [] h Q)
    : HJ 65 70 lv [] h Q := by
  refine hM_ic (n := 0) rfl (by decide) rfl (fun x1 q1 => ?_) -- 70
  refine hM_si2 (k := 7) rfl (by decide +kernel) rfl (fun lv2 e2_7 u2 => ?_) -- 71
  have e2_0 := u2 0 _ (by decide) (Or.inl rfl) e0
  have e2_1 := u2 1 _ (by decide) (Or.inl rfl) e1
  have e2_2 := u2 2 _ (by decide) (Or.inl rfl) e2
  have e2_3 := u2 3 _ (by decide) (Or.inl rfl) e3
  have e2_4 := u2 4 _ (by decide) (Or.inl rfl) e4
  have e2_5 := u2 5 _ (by decide) (Or.inl rfl) e5
  have e2_6 := u2 6 _ (by decide) (Or.inl rfl) e6
  exact g0 x1 q1 lv2 e2_0 e2_1 e2_2 e2_3 e2_4 e2_5 e2_6 e2_7
theorem r_li73 {nd : Nat} {a b t u k n j : Int} (M : RX h0 h H) (e0 : m_lk lv 0 = some (.ref nd)) {lx1 : Int32} (e1 : m_lk lv 1 = some (.int lx1)) (lq1 : lx1.toInt = a) {lx2 : Int32} (e2 : m_lk lv 2 = some (.int lx2)) (lq2 : lx2.toInt = b) {lx3 : Int32} (e3 : m_lk lv 3 = some (.int lx3)) (lq3 : lx3.toInt = t) {lx4 : Int32} (e4 : m_lk lv 4 = some (.int lx4)) (lq4 : lx4.toInt = u) {lx5 : Int32} (e5 : m_lk lv 5 = some (.int lx5)) (lq5 : lx5.toInt = k) {lx6 : Int32} (e6 : m_lk lv 6 = some (.int lx6)) (lq6 : lx6.toInt = n) {lx7 : Int32} (e7 : m_lk lv 7 = some (.int lx7)) (lq7 : lx7.toInt = j) (j0 : 0 ≤ j) (k1 : k ≤ 5) (hs0 : 16 ≤ nd) (hk0 : (h_k h0 nd).1 = 3)
    (g0 : j ≥ k → HJ 65 104 lv [] h Q)
    (g1 : ∀ x2 : Int32, x2.toInt = j + 1 → j < k → HJ 69 0 (lv_args 0 [.ref nd, .int lx4, .int lx7]) [] h (fun v h' => HJ 65 95 lv (v.toList ++ [.int x2, .int lx6, .ref nd]) h' Q))
    : HJ 65 73 lv [] h Q := by
  refine hI_il2 (k := 7) rfl e7 rfl ?_ -- 73
  refine hI_il2 (k := 5) rfl e5 rfl ?_ -- 75
  refine hM_cge (off := 27) (t := 104) rfl lq7 lq5 (by decide) rfl (fun c77 => ?_) (fun c77 => ?_) -- 77
  · exact g0 c77
  · refine hI_al (k := 0) rfl e0 rfl ?_ -- 80
    refine hI_il2 (k := 6) rfl e6 rfl ?_ -- 81
    refine hI_il2 (k := 7) rfl e7 rfl ?_ -- 83
    refine hM_ic (n := 1) rfl (by decide) rfl (fun x1 q1 => ?_) -- 85
    refine hM_add rfl lq7 q1 (by omega) (by omega) rfl (fun x2 q2 => ?_) -- 86
    refine hI_al (k := 0) rfl e0 rfl ?_ -- 87
    refine hI_il2 (k := 4) rfl e4 rfl ?_ -- 88
    refine hI_il2 (k := 7) rfl e7 rfl ?_ -- 90
    refine HJ.call (j := 69) (as := [.ref nd, .int lx4, .int lx7]) (rr := [.int x2, .int lx6, .ref nd]) (pc' := 95) (m_cR (kc := 2) rfl rfl (by decide +kernel) rfl rfl rfl ⟨rfl, by decide +kernel, by decide +kernel⟩ (by decide) hs0 (by rw [M.2.1]; exact hk0)) (by show 3 ≤ m_lc 69; decide +kernel) ?_ -- 92
    exact g1 x2 q2 c77
theorem r_li95 {nd : Nat} {a b t u k n j n2 j2 c : Int} (M : RX h0 h H) (e0 : m_lk lv 0 = some (.ref nd)) {lx1 : Int32} (e1 : m_lk lv 1 = some (.int lx1)) (lq1 : lx1.toInt = a) {lx2 : Int32} (e2 : m_lk lv 2 = some (.int lx2)) (lq2 : lx2.toInt = b) {lx3 : Int32} (e3 : m_lk lv 3 = some (.int lx3)) (lq3 : lx3.toInt = t) {lx4 : Int32} (e4 : m_lk lv 4 = some (.int lx4)) (lq4 : lx4.toInt = u) {lx5 : Int32} (e5 : m_lk lv 5 = some (.int lx5)) (lq5 : lx5.toInt = k) {lx6 : Int32} (e6 : m_lk lv 6 = some (.int lx6)) (lq6 : lx6.toInt = n) {lx7 : Int32} (e7 : m_lk lv 7 = some (.int lx7)) (lq7 : lx7.toInt = j) {sx1 : Int32} (sq1 : sx1.toInt = n2) {sx2 : Int32} (sq2 : sx2.toInt = j2) {sx3 : Int32} (sq3 : sx3.toInt = c)  (hs0 : 16 ≤ nd) (hk0 : (h_k h0 nd).1 = 3)
    (g0 : HJ 68 0 (lv_args 0 [.ref nd, .int sx1, .int sx2, .int sx3]) [] h (fun v h' => HJ 65 98 lv (v.toList ++ []) h' Q))
    : HJ 65 95 lv [.int sx3, .int sx2, .int sx1, .ref nd] h Q := by
  refine HJ.call (j := 68) (as := [.ref nd, .int sx1, .int sx2, .int sx3]) (rr := []) (pc' := 98) (m_cR (kc := 2) rfl rfl (by decide +kernel) rfl rfl rfl ⟨rfl, by decide +kernel, by decide +kernel⟩ (by decide) hs0 (by rw [M.2.1]; exact hk0)) (by show 4 ≤ m_lc 68; decide +kernel) ?_ -- 95
  exact g0 
theorem r_li98 {nd : Nat} {a b t u k n j : Int} (M : RX h0 h H) (e0 : m_lk lv 0 = some (.ref nd)) {lx1 : Int32} (e1 : m_lk lv 1 = some (.int lx1)) (lq1 : lx1.toInt = a) {lx2 : Int32} (e2 : m_lk lv 2 = some (.int lx2)) (lq2 : lx2.toInt = b) {lx3 : Int32} (e3 : m_lk lv 3 = some (.int lx3)) (lq3 : lx3.toInt = t) {lx4 : Int32} (e4 : m_lk lv 4 = some (.int lx4)) (lq4 : lx4.toInt = u) {lx5 : Int32} (e5 : m_lk lv 5 = some (.int lx5)) (lq5 : lx5.toInt = k) {lx6 : Int32} (e6 : m_lk lv 6 = some (.int lx6)) (lq6 : lx6.toInt = n) {lx7 : Int32} (e7 : m_lk lv 7 = some (.int lx7)) (lq7 : lx7.toInt = j) (j0 : 0 ≤ j) (j1 : j ≤ 5)
    (g0 : ∀ x1 : Int32, x1.toInt = j + 1 → ∀ lv1 : List (Nat × Value), m_lk lv1 0 = some (.ref nd) → m_lk lv1 1 = some (.int lx1) → m_lk lv1 2 = some (.int lx2) → m_lk lv1 3 = some (.int lx3) → m_lk lv1 4 = some (.int lx4) → m_lk lv1 5 = some (.int lx5) → m_lk lv1 6 = some (.int lx6) → m_lk lv1 7 = some (.int x1) → HJ 65 73 lv1 [] h Q)
    : HJ 65 98 lv [] h Q := by
  refine hM_inc (k := 7) (z := 1) rfl e7 lq7 (by decide) (by omega) (by omega) (by decide +kernel) rfl (fun lv1 x1 q1 e1_7 u1 => ?_) -- 98
  have e1_0 := u1 0 _ (by decide) (Or.inl rfl) e0
  have e1_1 := u1 1 _ (by decide) (Or.inl rfl) e1
  have e1_2 := u1 2 _ (by decide) (Or.inl rfl) e2
  have e1_3 := u1 3 _ (by decide) (Or.inl rfl) e3
  have e1_4 := u1 4 _ (by decide) (Or.inl rfl) e4
  have e1_5 := u1 5 _ (by decide) (Or.inl rfl) e5
  have e1_6 := u1 6 _ (by decide) (Or.inl rfl) e6
  refine hI_go (pc' := 73) (off := (-28)) rfl (by decide) ?_ -- 101
  exact g0 x1 q1 lv1 e1_0 e1_1 e1_2 e1_3 e1_4 e1_5 e1_6 e1_7
theorem r_li104 {nd : Nat} {n : Int} (M : RX h0 h H) (e0 : m_lk lv 0 = some (.ref nd)) {lx6 : Int32} (e6 : m_lk lv 6 = some (.int lx6)) (lq6 : lx6.toInt = n) (l0 : 0 ≤ H nd 6) (l1 : H nd 6 ≤ 16000) (hk0 : (h_k h0 nd).1 = 3)
    (g0 : ∀ h4 : MH, ∀ H4 : Nat → Nat → Int, H4 = m_u H nd (m_u (H nd) 6 ((H nd 6) + 1)) → RX h0 h4 H4 → Q (some (.int lx6)) h4)
    : HJ 65 104 lv [] h Q := by
  refine hI_al (k := 0) rfl e0 rfl ?_ -- 104
  refine hI_dup rfl rfl rfl ?_ -- 105
  refine hR_gi (c := 2) (k := 6) M hk0 rfl rfl rfl rfl (fun x1 q1 => ?_) -- 106
  have gb1 : -2147483648 ≤ H nd 6 ∧ H nd 6 ≤ 2147483647 := by rw [← q1]; exact g_iT _
  refine hM_ic (n := 1) rfl (by decide) rfl (fun x2 q2 => ?_) -- 109
  refine hM_add rfl q1 q2 (by omega) (by omega) rfl (fun x3 q3 => ?_) -- 110
  refine hR_pi (c := 2) (k := 6) M hk0 rfl rfl ⟨by decide, by decide +kernel, rfl⟩ q3 rfl (fun h4 H4 f4 M4 => ?_) -- 111
  refine hI_il2 (k := 6) rfl e6 rfl ?_ -- 114
  refine hI_ri rfl rfl ?_ -- 116
  exact g0 h4 H4 f4 M4
-- the other children go along
theorem l_liC {nd n u k : Nat} {d : Int} {H1 : Nat → Nat → Int} {xu xk xn : Int32} (ok : nl_ok h0 nd) (s0 : H1 nd 5 = (n : Int) + 1) (s1 : (n : Int) + 1 ≤ ((h_k h0 (h_r h0 nd 1)).2 : Int)) (n1 : n ≤ 15999) (un : u < n) (k4 : k ≤ 4) (qu : xu.toInt = (u : Int)) (qk : xk.toInt = (k : Int)) (qn : xn.toInt = (n : Int)) (g : ∀ (lv : List (Nat × Value)) (h' : MH) (H' : Nat → Nat → Int), RX h0 h' H' → (∀ a, a ≠ h_r h0 nd 0 → H' a = H1 a) → (∀ q, q < 7 * n + 2 → H' (h_r h0 nd 0) q = H1 (h_r h0 nd 0) q) → H' (h_r h0 nd 0) (7 * n + 2) = d → (∀ q, q < k → H' (h_r h0 nd 0) (7 * n + 3 + q) = H1 (h_r h0 nd 0) (7 * u + 2 + q)) → m_lk lv 0 = some (.ref nd) → m_lk lv 6 = some (.int xn) → HJ 65 104 lv [] h' Q) : ∀ (e j : Nat) (lv : List (Nat × Value)) (h : MH) (H : Nat → Nat → Int) (xa xb xt xj : Int32), j + e = k → xj.toInt = (j : Int) → RX h0 h H → (∀ a, a ≠ h_r h0 nd 0 → H a = H1 a) → (∀ q, q < 7 * n + 2 → H (h_r h0 nd 0) q = H1 (h_r h0 nd 0) q) → H (h_r h0 nd 0) (7 * n + 2) = d → (∀ q, q < j → H (h_r h0 nd 0) (7 * n + 3 + q) = H1 (h_r h0 nd 0) (7 * u + 2 + q)) → m_lk lv 0 = some (.ref nd) → m_lk lv 1 = some (.int xa) → m_lk lv 2 = some (.int xb) → m_lk lv 3 = some (.int xt) → m_lk lv 4 = some (.int xu) → m_lk lv 5 = some (.int xk) → m_lk lv 6 = some (.int xn) → m_lk lv 7 = some (.int xj) → HJ 65 73 lv [] h Q := by
  obtain ⟨⟨o1, o2, o3⟩, ⟨c1, c16, cl⟩, ⟨d1, d16, dl⟩, l1, ⟨m0, m1⟩, l2, l3⟩ := ok
  have nC : nd ≠ h_r h0 nd 0 := fun z => by rw [← z] at c1; omega
  intro e
  induction e with
  | zero =>
    intro j lv h H xa xb xt xj he hj M p1 p2 p3 p4 e0 e1 e2 e3 e4 e5 e6 e7
    exact r_li73 M e0 e1 rfl e2 rfl e3 rfl e4 qu e5 qk e6 qn e7 hj (by omega) (by omega) o2 o1 (fun _ => g lv h H M p1 p2 p3 (fun q hq => p4 q (by omega)) e0 e6) (fun _ _ c => absurd c (by omega))
  | succ e ih =>
    intro j lv h H xa xb xt xj he hj M p1 p2 p3 p4 e0 e1 e2 e3 e4 e5 e6 e7
    have h5 : H nd 5 = (n : Int) + 1 := by rw [p1 nd nC]; exact s0
    refine r_li73 M e0 e1 rfl e2 rfl e3 rfl e4 qu e5 qk e6 qn e7 hj (by omega) (by omega) o2 o1 (fun c => absurd c (by omega)) (fun x2 q2 _ => ?_)
    refine r_ch M rfl rfl qu rfl hj (by omega) (by omega) o1 c1 (by omega) (fun _ _ _ c => absurd c (by omega)) (fun _ _ _ _ c => absurd c (by omega)) (fun _ _ _ _ _ c => absurd c (by omega)) (fun _ _ _ _ _ _ c => absurd c (by omega)) (fun xc qc _ _ _ _ _ => ?_)
    rw [show ((u : Int) * 7 + 2 + (j : Int)).toNat = 7 * u + 2 + j by omega, p2 _ (by omega)] at qc
    refine r_li95 M e0 e1 rfl e2 rfl e3 rfl e4 qu e5 qk e6 qn e7 hj (sq1 := qn) (sq2 := q2) (sq3 := qc) o2 o1 ?_
    refine k_sc M ⟨⟨o1, o2⟩, ⟨c1, c16⟩, by omega⟩ (by omega) (by omega) qn q2 qc (by omega) (by omega) (by omega) (by omega) (fun h2 H2 f2 M2 => ?_)
    refine r_li98 M2 e0 e1 rfl e2 rfl e3 rfl e4 qu e5 qk e6 qn e7 hj (by omega) (by omega) (fun x3 q3 lv3 a0 a1 a2 a3 a4 a5 a6 a7 => ?_)
    have ix : 7 * (n : Int).toNat + 2 + ((j : Int) + 1).toNat = 7 * n + 3 + j := by omega
    rw [ix] at f2
    refine ih (j + 1) lv3 h2 H2 xa xb xt x3 (by omega) (by omega) M2 (fun a ha => by rw [f2, m_uN _ _ _ _ ha]; exact p1 a ha) (fun q hq => by rw [f2, m_uE, m_uN _ _ _ _ (by omega)]; exact p2 q hq) (by rw [f2, m_uE, m_uN _ _ _ _ (by omega)]; exact p3) (fun q hq => ?_) a0 a1 a2 a3 a4 a5 a6 a7
    rw [f2, m_uE]
    by_cases z : q = j
    · rw [z, m_uE]
    · rw [m_uN _ _ _ _ (by omega)]
      exact p4 q (by omega)
-- behind the choice: u above, d below
theorem k_li36 {nd : Nat} {S : PSt} {u d t : Int} {xa xb xt xu xk : Int32} (ok : nl_ok h nd) (I : cs_of h (z_i h) nd S) (cap : ps_n S ≤ 15999) (u0 : 0 ≤ u) (u1 : u < (ps_n S : Int)) (r4 : ps_k S u.toNat ≤ 4) (qt : xt.toInt = t) (qd : (t = 0 ∧ xb.toInt = d) ∨ (t ≠ 0 ∧ xa.toInt = d)) (qu : xu.toInt = u) (qk : xk.toInt = ps_k S u.toNat) (e0 : m_lk lv 0 = some (.ref nd)) (e1 : m_lk lv 1 = some (.int xa)) (e2 : m_lk lv 2 = some (.int xb)) (e3 : m_lk lv 3 = some (.int xt)) (e4 : m_lk lv 4 = some (.int xu)) (g : ∀ (x : Int32) (h' : MH), x.toInt = (ps_n S : Int) → nl_ok h' nd → cs_of h' (z_i h') nd (ps_lk S u d) → FX nd (fun _ => False) h h' → Q (some (.int x)) h') : HJ 65 36 lv [.int xk] h Q := by
  have M := RX.start h
  have i1 : z_i h nd 5 = (ps_n S : Int) := I.1
  have i2 : z_i h nd 6 = ps_l S := I.2.1
  obtain ⟨uw, ut, uy, ur, uk, uc⟩ := I.2.2.2.2 u.toNat (by omega)
  have nok := nl_nd ok i1
  refine r_li36 M e0 e1 rfl e2 rfl e3 qt e4 qu qk ok.1.2.1 ok.1.1 (fun lv1 a0 a1 a2 a3 a4 a5 => ?_)
  refine k_wt M nok I qu u0 u1 (fun xw qw => ?_)
  refine r_li45 M a0 a1 rfl a2 rfl a3 qt a4 qu a5 qk qw uk.1 (by omega) ok.1.2.1 ok.1.1 (fun x2 q2 => ?_)
  refine k_make ok (by omega) qw q2 (fun xn h1 qn T => ?_)
  obtain ⟨ok1, F1, t5, tk, tc, tw, tr, tl, tz⟩ := T
  rw [i1] at t5 tc tw tr tl tz qn
  rw [Int.toNat_natCast] at tw tr tz
  have nC : nd ≠ h_r h1 nd 0 := fun z => by have a := ok1.1.1; have b := ok1.2.1.1; rw [← z] at b; omega
  have nok1 : nd_ok h1 nd ((fun a j => (h_i h1 a j).toInt) nd 5).toNat := nl_nd ok1 (by show z_i h1 nd 5 = ((z_i h1 nd 5).toNat : Int); omega)
  have M1 := RX.start h1
  have rest : ∀ (lv2 : List (Nat × Value)) (h2 : MH) (H2 : Nat → Nat → Int), H2 = m_u (fun a j => (h_i h1 a j).toInt) (h_r h1 nd 0) (m_u (fun j => (h_i h1 (h_r h1 nd 0) j).toInt) (7 * ps_n S + 2) d) → RX h1 h2 H2 → m_lk lv2 0 = some (.ref nd) → m_lk lv2 1 = some (.int xa) → m_lk lv2 2 = some (.int xb) → m_lk lv2 3 = some (.int xt) → m_lk lv2 4 = some (.int xu) → m_lk lv2 5 = some (.int xk) → m_lk lv2 6 = some (.int xn) → HJ 65 70 lv2 [] h2 Q := fun lv2 h2 H2 f2 M2 b0 b1 b2 b3 b4 b5 b6 => by
    have nu : u.toNat < ps_n S := by omega
    refine r_li70 M2 b0 b1 rfl b2 rfl b3 qt b4 qu b5 qk b6 qn (fun x3 q3 lv3 d0 d1 d2 d3 d4 d5 d6 d7 => ?_)
    have m1 := ok1.2.2.2.2.1.2
    refine l_liC (n := ps_n S) (u := u.toNat) (k := (ps_k S u.toNat).toNat) (d := d) (H1 := z_i h1) ok1 t5 (by omega) cap nu (by omega) (by omega) (by omega) qn (fun lv4 h4 H4 M4 p1 p2 p3 p4 g0 g6 => ?_) (ps_k S u.toNat).toNat 0 lv3 h2 H2 xa xb xt x3 (by omega) q3 M2 (fun a ha => by rw [f2, m_uN _ _ _ _ ha]; rfl) (fun q hq => by rw [f2, m_uE, m_uN _ _ _ _ (by omega)]; rfl) (by rw [f2, m_uE, m_uE]) (fun q hq => by omega) d0 d1 d2 d3 d4 d5 d6 d7
    have l6 : H4 nd 6 = ps_l S := by rw [p1 nd nC, tk 6 (by decide), i2]
    have i3 := I.2.2.1
    refine r_li104 M4 g0 g6 qn (by omega) (by omega) ok1.1.1 (fun h5 H5 f5 M5 => g xn h5 qn (nl_RX ok1 M5 ?_) ?_ (F1.trans (FX.ofRX M5 (by rw [f5, m_uE, m_uN _ _ _ _ (by decide), p1 nd nC]) ?_)))
    · rw [f5, m_uE, m_uN _ _ _ _ (by decide), p1 nd nC]
    · have r5 : h_r h5 nd 0 = h_r h1 nd 0 := by rw [M5.2.2.1.1]
      have C5 : ∀ j, z_i h5 (h_r h5 nd 0) j = H4 (h_r h1 nd 0) j := fun j => by rw [r5, M5.zi, f5, m_uN _ _ _ _ (Ne.symm nC)]
      refine cs_mk I cap ?_ ?_ (by omega) (by omega) (fun j hj => ?_) ut.1 ut.2 uy.1 uy.2 (by omega) (by omega) ?_ ?_ (fun r hr => ?_)
      · rw [M5.zi, f5, m_uE, m_uN _ _ _ _ (by decide), p1 nd nC]
        exact t5
      · rw [M5.zi, f5, m_uE, m_uE, l6]
      · rw [C5, p2 j (by omega)]
        exact tc j (by omega)
      · rw [C5, p2 _ (by omega)]
        exact tw
      · rw [C5, p2 _ (by omega)]
        exact tr
      · rw [C5]
        by_cases c : (r : Int) < ps_k S u.toNat
        · rw [if_pos c, ← uc r c, show 7 * ps_n S + 2 + ((ps_k S u.toNat + 1).toNat - 1 - r) = 7 * ps_n S + 3 + ((ps_k S u.toNat).toNat - 1 - r) by omega, p4 _ (by omega), show 7 * u.toNat + 2 + ((ps_k S u.toNat).toNat - 1 - r) = 7 * u.toNat + 2 + ((ps_k S u.toNat).toNat - 1 - r) from rfl]
          exact tc _ (by omega)
        · rw [if_neg c, show 7 * ps_n S + 2 + ((ps_k S u.toNat + 1).toNat - 1 - r) = 7 * ps_n S + 2 by omega]
          exact p3
    · intro a ha j
      have a1 : a ≠ nd := fun z => ha (Or.inl z)
      have a2 : a ≠ h_r h1 nd 0 := fun z => ha (Or.inr (Or.inl z))
      rw [f5, m_uN _ _ _ _ a1, p1 a a2]
  have ix : 7 * (ps_n S : Int).toNat + 2 + (0 : Int).toNat = 7 * ps_n S + 2 := by omega
  have c5 : (h_i h1 nd 5).toInt = (ps_n S : Int) + 1 := t5
  refine r_li52 M1 a0 a1 rfl a2 rfl a3 qt a4 qu a5 qk qn ok1.1.2.1 ok1.1.1 (fun x3 q3 lv2 b0 b1 b2 b3 b4 b5 b6 c => ?_) (fun x3 q3 lv2 b0 b1 b2 b3 b4 b5 b6 c => ?_)
  · have qb : xb.toInt = d := by
      rcases qd with z | z
      · exact z.2
      · exact absurd c z.1
    refine k_sc M1 nok1 (by omega) (by omega) qn q3 qb (by omega) (by omega) (by omega) (by omega) (fun h2 H2 f2 M2 => ?_)
    rw [ix] at f2
    exact rest lv2 h2 H2 f2 M2 b0 b1 b2 b3 b4 b5 b6
  · have qa : xa.toInt = d := by
      rcases qd with z | z
      · exact absurd z.1 c
      · exact z.2
    refine k_sc M1 nok1 (by omega) (by omega) qn q3 qa (by omega) (by omega) (by omega) (by omega) (fun h2 H2 f2 M2 => ?_)
    rw [ix] at f2
    exact rest lv2 h2 H2 f2 M2 b0 b1 b2 b3 b4 b5 b6
theorem k_link {nd : Nat} {S : PSt} {a b : Int} {xa xb : Int32} (ok : nl_ok h nd) (I : cs_of h (z_i h) nd S) (cap : ps_n S ≤ 15999) (qa : xa.toInt = a) (qb : xb.toInt = b) (a0 : 0 ≤ a) (a1 : a < (ps_n S : Int)) (b0 : 0 ≤ b) (b1 : b < (ps_n S : Int)) (ra : ps_k S a.toNat ≤ 4) (rb : ps_k S b.toNat ≤ 4) (g : ∀ (x : Int32) (h' : MH), x.toInt = (ps_n S : Int) → nl_ok h' nd → cs_of h' (z_i h') nd (ps_link S a b) → FX nd (fun _ => False) h h' → Q (some (.int x)) h') : HJ 65 0 (lv_args 0 [.ref nd, .int xa, .int xb]) [] h Q := by
  have M := RX.start h
  have nok := nl_nd ok I.1
  refine r_li0 M rfl rfl qa rfl qb ok.1.2.1 ok.1.1 (k_wt M nok I qb b0 b1 (fun xw qw => ?_))
  refine r_li5 M rfl rfl qa rfl qb qw ok.1.2.1 ok.1.1 (k_wt M nok I qa a0 a1 (fun xv qv => ?_))
  have L := cs_ls I b0 b1 a0 a1
  refine r_li10 M rfl rfl qa rfl qb qw qv ok.1.2.1 ok.1.1 (fun x1 q1 lv3 e0 e1 e2 e3 e4 c => k_rk M nok I qa a0 a1 (fun xk qk => ?_)) (fun x1 q1 lv3 e0 e1 e2 e3 e4 c => k_rk M nok I qb b0 b1 (fun xk qk => ?_))
  · have nl : ¬ ps_ls S b a := fun z => by
      have := L.mpr z
      omega
    refine k_li36 (u := a) (d := b) ok I cap a0 a1 ra q1 (Or.inl ⟨rfl, qb⟩) qa qk e0 e1 e2 e3 e4 (fun x h' qx o I' F => g x h' qx o ?_ F)
    unfold ps_link
    rw [(ps_udF nl).1, (ps_udF nl).2]
    exact I'
  · have nl : ps_ls S b a := L.mp c
    refine k_li36 (u := b) (d := a) ok I cap b0 b1 rb q1 (Or.inr ⟨by decide, qa⟩) qb qk e0 e1 e2 e3 e4 (fun x h' qx o I' F => g x h' qx o ?_ F)
    unfold ps_link
    rw [(ps_udT nl).1, (ps_udT nl).2]
    exact I'
-- MELD
theorem r_me0 {nd hp ot : Nat} (M : RX h0 h H) (e0 : m_lk lv 0 = some (.ref nd)) (e1 : m_lk lv 1 = some (.ref hp)) (e2 : m_lk lv 2 = some (.ref ot)) 
    (g0 : ∀ x1 : Int32, x1.toInt = (-1) → ∀ x3 : Int32, x3.toInt = 0 → ∀ lv4 : List (Nat × Value), m_lk lv4 0 = some (.ref nd) → m_lk lv4 1 = some (.ref hp) → m_lk lv4 2 = some (.ref ot) → m_lk lv4 3 = some (.int x1) → m_lk lv4 4 = some (.int x3) → HJ 64 5 lv4 [] h Q)
    : HJ 64 0 lv [] h Q := by
  refine hM_ic (n := (-1)) rfl (by decide) rfl (fun x1 q1 => ?_) -- 0
  refine hM_si (k := 3) rfl (by decide +kernel) rfl (fun lv2 e2_3 u2 => ?_) -- 1
  have e2_0 := u2 0 _ (by decide) (Or.inl rfl) e0
  have e2_1 := u2 1 _ (by decide) (Or.inl rfl) e1
  have e2_2 := u2 2 _ (by decide) (Or.inl rfl) e2
  refine hM_ic (n := 0) rfl (by decide) rfl (fun x3 q3 => ?_) -- 2
  refine hM_si2 (k := 4) rfl (by decide +kernel) rfl (fun lv4 e4_4 u4 => ?_) -- 3
  have e4_0 := u4 0 _ (by decide) (Or.inl rfl) e2_0
  have e4_1 := u4 1 _ (by decide) (Or.inl rfl) e2_1
  have e4_2 := u4 2 _ (by decide) (Or.inl rfl) e2_2
  have e4_3 := u4 3 _ (by decide) (Or.inl rfl) e2_3
  exact g0 x1 q1 x3 q3 lv4 e4_0 e4_1 e4_2 e4_3 e4_4
theorem r_me5 {nd hp ot : Nat} {c r : Int} (M : RX h0 h H) (e0 : m_lk lv 0 = some (.ref nd)) (e1 : m_lk lv 1 = some (.ref hp)) (e2 : m_lk lv 2 = some (.ref ot)) {lx3 : Int32} (e3 : m_lk lv 3 = some (.int lx3)) (lq3 : lx3.toInt = c) {lx4 : Int32} (e4 : m_lk lv 4 = some (.int lx4)) (lq4 : lx4.toInt = r) (r0 : 0 ≤ r) (ha0 : (h_k h0 hp).1 = 20) (hl0 : 6 ≤ ((h_k h0 hp).2 : Int)) (ha1 : (h_k h0 ot).1 = 20) (hl1 : 6 ≤ ((h_k h0 ot).2 : Int)) (hs0 : 16 ≤ hp) (hs1 : 16 ≤ nd) (hk0 : (h_k h0 nd).1 = 3)
    (g0 : r ≥ 6 → Q none h)
    (g1 : ∀ h13 : MH, ∀ H13 : Nat → Nat → Int, H13 = m_u H hp (m_u (H hp) (r).toNat (H ot (r).toNat)) → ∀ x14 : Int32, x14.toInt = (-1) → ∀ lv15 : List (Nat × Value), RX h0 h13 H13 → m_lk lv15 0 = some (.ref nd) → m_lk lv15 1 = some (.ref hp) → m_lk lv15 2 = some (.ref ot) → m_lk lv15 3 = some (.int x14) → m_lk lv15 4 = some (.int lx4) → r < 6 → H hp (r).toNat = (-1) → c = (-1) → HJ 64 127 lv15 [] h13 Q)
    (g2 : ∀ h20 : MH, ∀ H20 : Nat → Nat → Int, H20 = m_u H hp (m_u (H hp) (r).toNat (c)) → ∀ x21 : Int32, x21.toInt = (-1) → ∀ lv22 : List (Nat × Value), RX h0 h20 H20 → m_lk lv22 0 = some (.ref nd) → m_lk lv22 1 = some (.ref hp) → m_lk lv22 2 = some (.ref ot) → m_lk lv22 3 = some (.int x21) → m_lk lv22 4 = some (.int lx4) → r < 6 → H hp (r).toNat = (-1) → c ≠ (-1) → H ot (r).toNat = (-1) → HJ 64 127 lv22 [] h20 Q)
    (g3 : ∀ x4 : Int32, x4.toInt = H ot (r).toNat → ∀ h26 : MH, ∀ H26 : Nat → Nat → Int, H26 = m_u H hp (m_u (H hp) (r).toNat ((-1))) → ∀ lv24 : List (Nat × Value), RX h0 h26 H26 → m_lk lv24 0 = some (.ref nd) → m_lk lv24 1 = some (.ref hp) → m_lk lv24 2 = some (.ref ot) → m_lk lv24 3 = some (.int lx3) → m_lk lv24 4 = some (.int lx4) → r < 6 → H hp (r).toNat = (-1) → c ≠ (-1) → H ot (r).toNat ≠ (-1) → HJ 65 0 (lv_args 0 [.ref nd, .int lx3, .int x4]) [] h26 (fun v h' => HJ 64 122 lv24 (v.toList ++ []) h' Q))
    (g4 : ∀ h34 : MH, ∀ H34 : Nat → Nat → Int, H34 = m_u H hp (m_u (H hp) (r).toNat (H hp (r).toNat)) → ∀ x35 : Int32, x35.toInt = (-1) → ∀ lv36 : List (Nat × Value), RX h0 h34 H34 → m_lk lv36 0 = some (.ref nd) → m_lk lv36 1 = some (.ref hp) → m_lk lv36 2 = some (.ref ot) → m_lk lv36 3 = some (.int x35) → m_lk lv36 4 = some (.int lx4) → r < 6 → H hp (r).toNat ≠ (-1) → H ot (r).toNat = (-1) → c = (-1) → HJ 64 127 lv36 [] h34 Q)
    (g5 : ∀ x2 : Int32, x2.toInt = H hp (r).toNat → ∀ h41 : MH, ∀ H41 : Nat → Nat → Int, H41 = m_u H hp (m_u (H hp) (r).toNat ((-1))) → ∀ lv39 : List (Nat × Value), RX h0 h41 H41 → m_lk lv39 0 = some (.ref nd) → m_lk lv39 1 = some (.ref hp) → m_lk lv39 2 = some (.ref ot) → m_lk lv39 3 = some (.int lx3) → m_lk lv39 4 = some (.int lx4) → r < 6 → H hp (r).toNat ≠ (-1) → H ot (r).toNat = (-1) → c ≠ (-1) → HJ 65 0 (lv_args 0 [.ref nd, .int lx3, .int x2]) [] h41 (fun v h' => HJ 64 122 lv39 (v.toList ++ []) h' Q))
    (g6 : ∀ x2 : Int32, x2.toInt = H hp (r).toNat → ∀ x4 : Int32, x4.toInt = H ot (r).toNat → ∀ h42 : MH, ∀ H42 : Nat → Nat → Int, H42 = m_u H hp (m_u (H hp) (r).toNat (c)) → ∀ lv5 : List (Nat × Value), RX h0 h42 H42 → m_lk lv5 0 = some (.ref nd) → m_lk lv5 1 = some (.ref hp) → m_lk lv5 2 = some (.ref ot) → m_lk lv5 3 = some (.int lx3) → m_lk lv5 4 = some (.int lx4) → r < 6 → H hp (r).toNat ≠ (-1) → H ot (r).toNat ≠ (-1) → HJ 65 0 (lv_args 0 [.ref nd, .int x2, .int x4]) [] h42 (fun v h' => HJ 64 49 lv5 (v.toList ++ []) h' Q))
    : HJ 64 5 lv [] h Q := by
  refine hI_il2 (k := 4) rfl e4 rfl ?_ -- 5
  refine hM_bp (n := 6) rfl (by decide) rfl (fun x1 q1 => ?_) -- 7
  refine hM_cge (off := 124) (t := 133) rfl lq4 q1 (by decide) rfl (fun c9 => ?_) (fun c9 => ?_) -- 9
  · refine hI_rv rfl rfl ?_
    exact g0 c9
  · refine hI_al (k := 1) rfl e1 rfl ?_ -- 12
    refine hI_il2 (k := 4) rfl e4 rfl ?_ -- 13
    refine hR_ia M ha0 lq4 (by omega) (by omega) rfl rfl (fun x2 q2 => ?_) -- 15
    have gb2 : -2147483648 ≤ H hp (r).toNat ∧ H hp (r).toNat ≤ 2147483647 := by rw [← q2]; exact g_iT _
    refine hM_si2 (k := 5) rfl (by decide +kernel) rfl (fun lv3 e3_5 u3 => ?_) -- 16
    have e3_0 := u3 0 _ (by decide) (Or.inl rfl) e0
    have e3_1 := u3 1 _ (by decide) (Or.inl rfl) e1
    have e3_2 := u3 2 _ (by decide) (Or.inl rfl) e2
    have e3_3 := u3 3 _ (by decide) (Or.inl rfl) e3
    have e3_4 := u3 4 _ (by decide) (Or.inl rfl) e4
    refine hI_al (k := 2) rfl e3_2 rfl ?_ -- 18
    refine hI_il2 (k := 4) rfl e3_4 rfl ?_ -- 19
    refine hR_ia M ha1 lq4 (by omega) (by omega) rfl rfl (fun x4 q4 => ?_) -- 21
    have gb4 : -2147483648 ≤ H ot (r).toNat ∧ H ot (r).toNat ≤ 2147483647 := by rw [← q4]; exact g_iT _
    refine hM_si2 (k := 6) rfl (by decide +kernel) rfl (fun lv5 e5_6 u5 => ?_) -- 22
    have e5_0 := u5 0 _ (by decide) (Or.inl rfl) e3_0
    have e5_1 := u5 1 _ (by decide) (Or.inl rfl) e3_1
    have e5_2 := u5 2 _ (by decide) (Or.inl rfl) e3_2
    have e5_3 := u5 3 _ (by decide) (Or.inl rfl) e3_3
    have e5_4 := u5 4 _ (by decide) (Or.inl rfl) e3_4
    have e5_5 := u5 5 _ (by decide) (Or.inl rfl) e3_5
    refine hI_il2 (k := 5) rfl e5_5 rfl ?_ -- 24
    refine hM_ic (n := (-1)) rfl (by decide) rfl (fun x6 q6 => ?_) -- 26
    refine hM_ceq (off := 26) (t := 53) rfl q2 q6 (by decide) rfl (fun c27 => ?_) (fun c27 => ?_) -- 27
    · refine hI_il2 (k := 5) rfl e5_5 rfl ?_ -- 53
      refine hM_ic (n := (-1)) rfl (by decide) rfl (fun x7 q7 => ?_) -- 55
      refine hM_cne (off := 8) (t := 64) rfl q2 q7 (by decide) rfl (fun c56 => ?_) (fun c56 => ?_) -- 56
      · exfalso; omega
      · refine hI_il2 (k := 6) rfl e5_6 rfl ?_ -- 59
        refine hI_go (pc' := 66) (off := 5) rfl (by decide) ?_ -- 61
        refine hM_si2 (k := 7) rfl (by decide +kernel) rfl (fun lv8 e8_7 u8 => ?_) -- 66
        have e8_0 := u8 0 _ (by decide) (Or.inl rfl) e5_0
        have e8_1 := u8 1 _ (by decide) (Or.inl rfl) e5_1
        have e8_2 := u8 2 _ (by decide) (Or.inl rfl) e5_2
        have e8_3 := u8 3 _ (by decide) (Or.inl rfl) e5_3
        have e8_4 := u8 4 _ (by decide) (Or.inl rfl) e5_4
        have e8_5 := u8 5 _ (by decide) (Or.inl rfl) e5_5
        have e8_6 := u8 6 _ (by decide) (Or.inl rfl) e5_6
        refine hI_il (k := 3) rfl e8_3 rfl ?_ -- 68
        refine hM_ic (n := (-1)) rfl (by decide) rfl (fun x9 q9 => ?_) -- 69
        refine hM_ceq (off := 13) (t := 83) rfl lq3 q9 (by decide) rfl (fun c70 => ?_) (fun c70 => ?_) -- 70
        · refine hM_ic (n := 0) rfl (by decide) rfl (fun x10 q10 => ?_) -- 83
          refine hM_si2 (k := 8) rfl (by decide +kernel) rfl (fun lv11 e11_8 u11 => ?_) -- 84
          have e11_0 := u11 0 _ (by decide) (Or.inl rfl) e8_0
          have e11_1 := u11 1 _ (by decide) (Or.inl rfl) e8_1
          have e11_2 := u11 2 _ (by decide) (Or.inl rfl) e8_2
          have e11_3 := u11 3 _ (by decide) (Or.inl rfl) e8_3
          have e11_4 := u11 4 _ (by decide) (Or.inl rfl) e8_4
          have e11_5 := u11 5 _ (by decide) (Or.inl rfl) e8_5
          have e11_6 := u11 6 _ (by decide) (Or.inl rfl) e8_6
          have e11_7 := u11 7 _ (by decide) (Or.inl rfl) e8_7
          refine hI_al (k := 1) rfl e11_1 rfl ?_ -- 86
          refine hI_il2 (k := 4) rfl e11_4 rfl ?_ -- 87
          refine hI_il2 (k := 8) rfl e11_8 rfl ?_ -- 89
          refine hM_zeq (off := 7) (t := 98) rfl q10 (by decide) rfl (fun c91 => ?_) (fun c91 => ?_) -- 91
          · refine hI_il (k := 3) rfl e11_3 rfl ?_ -- 98
            refine hM_ic (n := (-1)) rfl (by decide) rfl (fun x12 q12 => ?_) -- 99
            refine hM_cne (off := 8) (t := 108) rfl lq3 q12 (by decide) rfl (fun c100 => ?_) (fun c100 => ?_) -- 100
            · exfalso; omega
            · refine hI_il2 (k := 7) rfl e11_7 rfl ?_ -- 103
              refine hI_go (pc' := 109) (off := 4) rfl (by decide) ?_ -- 105
              refine hR_is M hs0 ha0 lq4 q4 (by omega) (by omega) rfl rfl (fun h13 H13 f13 M13 => ?_) -- 109
              refine hI_il2 (k := 8) rfl e11_8 rfl ?_ -- 110
              refine hM_zeq (off := 13) (t := 125) rfl q10 (by decide) rfl (fun c112 => ?_) (fun c112 => ?_) -- 112
              · refine hM_ic (n := (-1)) rfl (by decide) rfl (fun x14 q14 => ?_) -- 125
                refine hM_si (k := 3) rfl (by decide +kernel) rfl (fun lv15 e15_3 u15 => ?_) -- 126
                have e15_0 := u15 0 _ (by decide) (Or.inl rfl) e11_0
                have e15_1 := u15 1 _ (by decide) (Or.inl rfl) e11_1
                have e15_2 := u15 2 _ (by decide) (Or.inl rfl) e11_2
                have e15_4 := u15 4 _ (by decide) (Or.inl rfl) e11_4
                have e15_5 := u15 5 _ (by decide) (Or.inl rfl) e11_5
                have e15_6 := u15 6 _ (by decide) (Or.inl rfl) e11_6
                have e15_7 := u15 7 _ (by decide) (Or.inl rfl) e11_7
                have e15_8 := u15 8 _ (by decide) (Or.inl rfl) e11_8
                exact g1 h13 H13 f13 x14 q14 lv15 M13 e15_0 e15_1 e15_2 e15_3 e15_4 c9 c27 c70
              · exfalso; omega
          · exfalso; omega
        · refine hI_il2 (k := 7) rfl e8_7 rfl ?_ -- 73
          refine hM_ic (n := (-1)) rfl (by decide) rfl (fun x16 q16 => ?_) -- 75
          refine hM_ceq (off := 7) (t := 83) rfl q4 q16 (by decide) rfl (fun c76 => ?_) (fun c76 => ?_) -- 76
          · refine hM_ic (n := 0) rfl (by decide) rfl (fun x17 q17 => ?_) -- 83
            refine hM_si2 (k := 8) rfl (by decide +kernel) rfl (fun lv18 e18_8 u18 => ?_) -- 84
            have e18_0 := u18 0 _ (by decide) (Or.inl rfl) e8_0
            have e18_1 := u18 1 _ (by decide) (Or.inl rfl) e8_1
            have e18_2 := u18 2 _ (by decide) (Or.inl rfl) e8_2
            have e18_3 := u18 3 _ (by decide) (Or.inl rfl) e8_3
            have e18_4 := u18 4 _ (by decide) (Or.inl rfl) e8_4
            have e18_5 := u18 5 _ (by decide) (Or.inl rfl) e8_5
            have e18_6 := u18 6 _ (by decide) (Or.inl rfl) e8_6
            have e18_7 := u18 7 _ (by decide) (Or.inl rfl) e8_7
            refine hI_al (k := 1) rfl e18_1 rfl ?_ -- 86
            refine hI_il2 (k := 4) rfl e18_4 rfl ?_ -- 87
            refine hI_il2 (k := 8) rfl e18_8 rfl ?_ -- 89
            refine hM_zeq (off := 7) (t := 98) rfl q17 (by decide) rfl (fun c91 => ?_) (fun c91 => ?_) -- 91
            · refine hI_il (k := 3) rfl e18_3 rfl ?_ -- 98
              refine hM_ic (n := (-1)) rfl (by decide) rfl (fun x19 q19 => ?_) -- 99
              refine hM_cne (off := 8) (t := 108) rfl lq3 q19 (by decide) rfl (fun c100 => ?_) (fun c100 => ?_) -- 100
              · refine hI_il (k := 3) rfl e18_3 rfl ?_ -- 108
                refine hR_is M hs0 ha0 lq4 lq3 (by omega) (by omega) rfl rfl (fun h20 H20 f20 M20 => ?_) -- 109
                refine hI_il2 (k := 8) rfl e18_8 rfl ?_ -- 110
                refine hM_zeq (off := 13) (t := 125) rfl q17 (by decide) rfl (fun c112 => ?_) (fun c112 => ?_) -- 112
                · refine hM_ic (n := (-1)) rfl (by decide) rfl (fun x21 q21 => ?_) -- 125
                  refine hM_si (k := 3) rfl (by decide +kernel) rfl (fun lv22 e22_3 u22 => ?_) -- 126
                  have e22_0 := u22 0 _ (by decide) (Or.inl rfl) e18_0
                  have e22_1 := u22 1 _ (by decide) (Or.inl rfl) e18_1
                  have e22_2 := u22 2 _ (by decide) (Or.inl rfl) e18_2
                  have e22_4 := u22 4 _ (by decide) (Or.inl rfl) e18_4
                  have e22_5 := u22 5 _ (by decide) (Or.inl rfl) e18_5
                  have e22_6 := u22 6 _ (by decide) (Or.inl rfl) e18_6
                  have e22_7 := u22 7 _ (by decide) (Or.inl rfl) e18_7
                  have e22_8 := u22 8 _ (by decide) (Or.inl rfl) e18_8
                  exact g2 h20 H20 f20 x21 q21 lv22 M20 e22_0 e22_1 e22_2 e22_3 e22_4 c9 c27 c70 c76
                · exfalso; omega
              · exfalso; omega
            · exfalso; omega
          · refine hM_ic (n := 1) rfl (by decide) rfl (fun x23 q23 => ?_) -- 79
            refine hI_go (pc' := 84) (off := 4) rfl (by decide) ?_ -- 80
            refine hM_si2 (k := 8) rfl (by decide +kernel) rfl (fun lv24 e24_8 u24 => ?_) -- 84
            have e24_0 := u24 0 _ (by decide) (Or.inl rfl) e8_0
            have e24_1 := u24 1 _ (by decide) (Or.inl rfl) e8_1
            have e24_2 := u24 2 _ (by decide) (Or.inl rfl) e8_2
            have e24_3 := u24 3 _ (by decide) (Or.inl rfl) e8_3
            have e24_4 := u24 4 _ (by decide) (Or.inl rfl) e8_4
            have e24_5 := u24 5 _ (by decide) (Or.inl rfl) e8_5
            have e24_6 := u24 6 _ (by decide) (Or.inl rfl) e8_6
            have e24_7 := u24 7 _ (by decide) (Or.inl rfl) e8_7
            refine hI_al (k := 1) rfl e24_1 rfl ?_ -- 86
            refine hI_il2 (k := 4) rfl e24_4 rfl ?_ -- 87
            refine hI_il2 (k := 8) rfl e24_8 rfl ?_ -- 89
            refine hM_zeq (off := 7) (t := 98) rfl q23 (by decide) rfl (fun c91 => ?_) (fun c91 => ?_) -- 91
            · exfalso; omega
            · refine hM_ic (n := (-1)) rfl (by decide) rfl (fun x25 q25 => ?_) -- 94
              refine hI_go (pc' := 109) (off := 14) rfl (by decide) ?_ -- 95
              refine hR_is M hs0 ha0 lq4 q25 (by omega) (by omega) rfl rfl (fun h26 H26 f26 M26 => ?_) -- 109
              refine hI_il2 (k := 8) rfl e24_8 rfl ?_ -- 110
              refine hM_zeq (off := 13) (t := 125) rfl q23 (by decide) rfl (fun c112 => ?_) (fun c112 => ?_) -- 112
              · exfalso; omega
              · refine hI_al (k := 0) rfl e24_0 rfl ?_ -- 115
                refine hI_il (k := 3) rfl e24_3 rfl ?_ -- 116
                refine hI_il2 (k := 7) rfl e24_7 rfl ?_ -- 117
                refine HJ.call (j := 65) (as := [.ref nd, .int lx3, .int x4]) (rr := []) (pc' := 122) (m_cR (kc := 2) rfl rfl (by decide +kernel) rfl rfl rfl ⟨rfl, by decide +kernel, by decide +kernel⟩ (by decide) hs1 (by rw [M26.2.1]; exact hk0)) (by show 3 ≤ m_lc 65; decide +kernel) ?_ -- 119
                exact g3 x4 q4 h26 H26 f26 lv24 M26 e24_0 e24_1 e24_2 e24_3 e24_4 c9 c27 c70 c76
    · refine hI_il2 (k := 6) rfl e5_6 rfl ?_ -- 30
      refine hM_ic (n := (-1)) rfl (by decide) rfl (fun x27 q27 => ?_) -- 32
      refine hM_ceq (off := 20) (t := 53) rfl q4 q27 (by decide) rfl (fun c33 => ?_) (fun c33 => ?_) -- 33
      · refine hI_il2 (k := 5) rfl e5_5 rfl ?_ -- 53
        refine hM_ic (n := (-1)) rfl (by decide) rfl (fun x28 q28 => ?_) -- 55
        refine hM_cne (off := 8) (t := 64) rfl q2 q28 (by decide) rfl (fun c56 => ?_) (fun c56 => ?_) -- 56
        · refine hI_il2 (k := 5) rfl e5_5 rfl ?_ -- 64
          refine hM_si2 (k := 7) rfl (by decide +kernel) rfl (fun lv29 e29_7 u29 => ?_) -- 66
          have e29_0 := u29 0 _ (by decide) (Or.inl rfl) e5_0
          have e29_1 := u29 1 _ (by decide) (Or.inl rfl) e5_1
          have e29_2 := u29 2 _ (by decide) (Or.inl rfl) e5_2
          have e29_3 := u29 3 _ (by decide) (Or.inl rfl) e5_3
          have e29_4 := u29 4 _ (by decide) (Or.inl rfl) e5_4
          have e29_5 := u29 5 _ (by decide) (Or.inl rfl) e5_5
          have e29_6 := u29 6 _ (by decide) (Or.inl rfl) e5_6
          refine hI_il (k := 3) rfl e29_3 rfl ?_ -- 68
          refine hM_ic (n := (-1)) rfl (by decide) rfl (fun x30 q30 => ?_) -- 69
          refine hM_ceq (off := 13) (t := 83) rfl lq3 q30 (by decide) rfl (fun c70 => ?_) (fun c70 => ?_) -- 70
          · refine hM_ic (n := 0) rfl (by decide) rfl (fun x31 q31 => ?_) -- 83
            refine hM_si2 (k := 8) rfl (by decide +kernel) rfl (fun lv32 e32_8 u32 => ?_) -- 84
            have e32_0 := u32 0 _ (by decide) (Or.inl rfl) e29_0
            have e32_1 := u32 1 _ (by decide) (Or.inl rfl) e29_1
            have e32_2 := u32 2 _ (by decide) (Or.inl rfl) e29_2
            have e32_3 := u32 3 _ (by decide) (Or.inl rfl) e29_3
            have e32_4 := u32 4 _ (by decide) (Or.inl rfl) e29_4
            have e32_5 := u32 5 _ (by decide) (Or.inl rfl) e29_5
            have e32_6 := u32 6 _ (by decide) (Or.inl rfl) e29_6
            have e32_7 := u32 7 _ (by decide) (Or.inl rfl) e29_7
            refine hI_al (k := 1) rfl e32_1 rfl ?_ -- 86
            refine hI_il2 (k := 4) rfl e32_4 rfl ?_ -- 87
            refine hI_il2 (k := 8) rfl e32_8 rfl ?_ -- 89
            refine hM_zeq (off := 7) (t := 98) rfl q31 (by decide) rfl (fun c91 => ?_) (fun c91 => ?_) -- 91
            · refine hI_il (k := 3) rfl e32_3 rfl ?_ -- 98
              refine hM_ic (n := (-1)) rfl (by decide) rfl (fun x33 q33 => ?_) -- 99
              refine hM_cne (off := 8) (t := 108) rfl lq3 q33 (by decide) rfl (fun c100 => ?_) (fun c100 => ?_) -- 100
              · exfalso; omega
              · refine hI_il2 (k := 7) rfl e32_7 rfl ?_ -- 103
                refine hI_go (pc' := 109) (off := 4) rfl (by decide) ?_ -- 105
                refine hR_is M hs0 ha0 lq4 q2 (by omega) (by omega) rfl rfl (fun h34 H34 f34 M34 => ?_) -- 109
                refine hI_il2 (k := 8) rfl e32_8 rfl ?_ -- 110
                refine hM_zeq (off := 13) (t := 125) rfl q31 (by decide) rfl (fun c112 => ?_) (fun c112 => ?_) -- 112
                · refine hM_ic (n := (-1)) rfl (by decide) rfl (fun x35 q35 => ?_) -- 125
                  refine hM_si (k := 3) rfl (by decide +kernel) rfl (fun lv36 e36_3 u36 => ?_) -- 126
                  have e36_0 := u36 0 _ (by decide) (Or.inl rfl) e32_0
                  have e36_1 := u36 1 _ (by decide) (Or.inl rfl) e32_1
                  have e36_2 := u36 2 _ (by decide) (Or.inl rfl) e32_2
                  have e36_4 := u36 4 _ (by decide) (Or.inl rfl) e32_4
                  have e36_5 := u36 5 _ (by decide) (Or.inl rfl) e32_5
                  have e36_6 := u36 6 _ (by decide) (Or.inl rfl) e32_6
                  have e36_7 := u36 7 _ (by decide) (Or.inl rfl) e32_7
                  have e36_8 := u36 8 _ (by decide) (Or.inl rfl) e32_8
                  exact g4 h34 H34 f34 x35 q35 lv36 M34 e36_0 e36_1 e36_2 e36_3 e36_4 c9 c27 c33 c70
                · exfalso; omega
            · exfalso; omega
          · refine hI_il2 (k := 7) rfl e29_7 rfl ?_ -- 73
            refine hM_ic (n := (-1)) rfl (by decide) rfl (fun x37 q37 => ?_) -- 75
            refine hM_ceq (off := 7) (t := 83) rfl q2 q37 (by decide) rfl (fun c76 => ?_) (fun c76 => ?_) -- 76
            · exfalso; omega
            · refine hM_ic (n := 1) rfl (by decide) rfl (fun x38 q38 => ?_) -- 79
              refine hI_go (pc' := 84) (off := 4) rfl (by decide) ?_ -- 80
              refine hM_si2 (k := 8) rfl (by decide +kernel) rfl (fun lv39 e39_8 u39 => ?_) -- 84
              have e39_0 := u39 0 _ (by decide) (Or.inl rfl) e29_0
              have e39_1 := u39 1 _ (by decide) (Or.inl rfl) e29_1
              have e39_2 := u39 2 _ (by decide) (Or.inl rfl) e29_2
              have e39_3 := u39 3 _ (by decide) (Or.inl rfl) e29_3
              have e39_4 := u39 4 _ (by decide) (Or.inl rfl) e29_4
              have e39_5 := u39 5 _ (by decide) (Or.inl rfl) e29_5
              have e39_6 := u39 6 _ (by decide) (Or.inl rfl) e29_6
              have e39_7 := u39 7 _ (by decide) (Or.inl rfl) e29_7
              refine hI_al (k := 1) rfl e39_1 rfl ?_ -- 86
              refine hI_il2 (k := 4) rfl e39_4 rfl ?_ -- 87
              refine hI_il2 (k := 8) rfl e39_8 rfl ?_ -- 89
              refine hM_zeq (off := 7) (t := 98) rfl q38 (by decide) rfl (fun c91 => ?_) (fun c91 => ?_) -- 91
              · exfalso; omega
              · refine hM_ic (n := (-1)) rfl (by decide) rfl (fun x40 q40 => ?_) -- 94
                refine hI_go (pc' := 109) (off := 14) rfl (by decide) ?_ -- 95
                refine hR_is M hs0 ha0 lq4 q40 (by omega) (by omega) rfl rfl (fun h41 H41 f41 M41 => ?_) -- 109
                refine hI_il2 (k := 8) rfl e39_8 rfl ?_ -- 110
                refine hM_zeq (off := 13) (t := 125) rfl q38 (by decide) rfl (fun c112 => ?_) (fun c112 => ?_) -- 112
                · exfalso; omega
                · refine hI_al (k := 0) rfl e39_0 rfl ?_ -- 115
                  refine hI_il (k := 3) rfl e39_3 rfl ?_ -- 116
                  refine hI_il2 (k := 7) rfl e39_7 rfl ?_ -- 117
                  refine HJ.call (j := 65) (as := [.ref nd, .int lx3, .int x2]) (rr := []) (pc' := 122) (m_cR (kc := 2) rfl rfl (by decide +kernel) rfl rfl rfl ⟨rfl, by decide +kernel, by decide +kernel⟩ (by decide) hs1 (by rw [M41.2.1]; exact hk0)) (by show 3 ≤ m_lc 65; decide +kernel) ?_ -- 119
                  exact g5 x2 q2 h41 H41 f41 lv39 M41 e39_0 e39_1 e39_2 e39_3 e39_4 c9 c27 c33 c70
        · exfalso; omega
      · refine hI_al (k := 1) rfl e5_1 rfl ?_ -- 36
        refine hI_il2 (k := 4) rfl e5_4 rfl ?_ -- 37
        refine hI_il (k := 3) rfl e5_3 rfl ?_ -- 39
        refine hR_is M hs0 ha0 lq4 lq3 (by omega) (by omega) rfl rfl (fun h42 H42 f42 M42 => ?_) -- 40
        refine hI_al (k := 0) rfl e5_0 rfl ?_ -- 41
        refine hI_il2 (k := 5) rfl e5_5 rfl ?_ -- 42
        refine hI_il2 (k := 6) rfl e5_6 rfl ?_ -- 44
        refine HJ.call (j := 65) (as := [.ref nd, .int x2, .int x4]) (rr := []) (pc' := 49) (m_cR (kc := 2) rfl rfl (by decide +kernel) rfl rfl rfl ⟨rfl, by decide +kernel, by decide +kernel⟩ (by decide) hs1 (by rw [M42.2.1]; exact hk0)) (by show 3 ≤ m_lc 65; decide +kernel) ?_ -- 46
        exact g6 x2 q2 x4 q4 h42 H42 f42 lv5 M42 e5_0 e5_1 e5_2 e5_3 e5_4 c9 c27 c33
theorem r_me49 {nd hp ot : Nat} {c r n : Int} (M : RX h0 h H) (e0 : m_lk lv 0 = some (.ref nd)) (e1 : m_lk lv 1 = some (.ref hp)) (e2 : m_lk lv 2 = some (.ref ot)) {lx3 : Int32} (e3 : m_lk lv 3 = some (.int lx3)) (lq3 : lx3.toInt = c) {lx4 : Int32} (e4 : m_lk lv 4 = some (.int lx4)) (lq4 : lx4.toInt = r) {sx0 : Int32} (sq0 : sx0.toInt = n) 
    (g0 : ∀ lv1 : List (Nat × Value), m_lk lv1 0 = some (.ref nd) → m_lk lv1 1 = some (.ref hp) → m_lk lv1 2 = some (.ref ot) → m_lk lv1 3 = some (.int sx0) → m_lk lv1 4 = some (.int lx4) → HJ 64 127 lv1 [] h Q)
    : HJ 64 49 lv [.int sx0] h Q := by
  refine hM_si (k := 3) rfl (by decide +kernel) rfl (fun lv1 e1_3 u1 => ?_) -- 49
  have e1_0 := u1 0 _ (by decide) (Or.inl rfl) e0
  have e1_1 := u1 1 _ (by decide) (Or.inl rfl) e1
  have e1_2 := u1 2 _ (by decide) (Or.inl rfl) e2
  have e1_4 := u1 4 _ (by decide) (Or.inl rfl) e4
  refine hI_go (pc' := 127) (off := 77) rfl (by decide) ?_ -- 50
  exact g0 lv1 e1_0 e1_1 e1_2 e1_3 e1_4
theorem r_me122 {nd hp ot : Nat} {c r n : Int} (M : RX h0 h H) (e0 : m_lk lv 0 = some (.ref nd)) (e1 : m_lk lv 1 = some (.ref hp)) (e2 : m_lk lv 2 = some (.ref ot)) {lx3 : Int32} (e3 : m_lk lv 3 = some (.int lx3)) (lq3 : lx3.toInt = c) {lx4 : Int32} (e4 : m_lk lv 4 = some (.int lx4)) (lq4 : lx4.toInt = r) {sx0 : Int32} (sq0 : sx0.toInt = n) 
    (g0 : ∀ lv1 : List (Nat × Value), m_lk lv1 0 = some (.ref nd) → m_lk lv1 1 = some (.ref hp) → m_lk lv1 2 = some (.ref ot) → m_lk lv1 3 = some (.int sx0) → m_lk lv1 4 = some (.int lx4) → HJ 64 127 lv1 [] h Q)
    : HJ 64 122 lv [.int sx0] h Q := by
  refine hI_go (pc' := 126) (off := 4) rfl (by decide) ?_ -- 122
  refine hM_si (k := 3) rfl (by decide +kernel) rfl (fun lv1 e1_3 u1 => ?_) -- 126
  have e1_0 := u1 0 _ (by decide) (Or.inl rfl) e0
  have e1_1 := u1 1 _ (by decide) (Or.inl rfl) e1
  have e1_2 := u1 2 _ (by decide) (Or.inl rfl) e2
  have e1_4 := u1 4 _ (by decide) (Or.inl rfl) e4
  exact g0 lv1 e1_0 e1_1 e1_2 e1_3 e1_4
theorem r_me127 {nd hp ot : Nat} {c r : Int} (M : RX h0 h H) (e0 : m_lk lv 0 = some (.ref nd)) (e1 : m_lk lv 1 = some (.ref hp)) (e2 : m_lk lv 2 = some (.ref ot)) {lx3 : Int32} (e3 : m_lk lv 3 = some (.int lx3)) (lq3 : lx3.toInt = c) {lx4 : Int32} (e4 : m_lk lv 4 = some (.int lx4)) (lq4 : lx4.toInt = r) (r0 : 0 ≤ r) (r1 : r ≤ 5)
    (g0 : ∀ x1 : Int32, x1.toInt = r + 1 → ∀ lv1 : List (Nat × Value), m_lk lv1 0 = some (.ref nd) → m_lk lv1 1 = some (.ref hp) → m_lk lv1 2 = some (.ref ot) → m_lk lv1 3 = some (.int lx3) → m_lk lv1 4 = some (.int x1) → HJ 64 5 lv1 [] h Q)
    : HJ 64 127 lv [] h Q := by
  refine hM_inc (k := 4) (z := 1) rfl e4 lq4 (by decide) (by omega) (by omega) (by decide +kernel) rfl (fun lv1 x1 q1 e1_4 u1 => ?_) -- 127
  have e1_0 := u1 0 _ (by decide) (Or.inl rfl) e0
  have e1_1 := u1 1 _ (by decide) (Or.inl rfl) e1
  have e1_2 := u1 2 _ (by decide) (Or.inl rfl) e2
  have e1_3 := u1 3 _ (by decide) (Or.inl rfl) e3
  refine hI_go (pc' := 5) (off := (-125)) rfl (by decide) ?_ -- 130
  exact g0 x1 q1 lv1 e1_0 e1_1 e1_2 e1_3 e1_4
def ap_ok (h : MH) (nd hp : Nat) : Prop := hp_ok h hp ∧ hp < 16 + h_n h ∧ hp ≠ h_r h nd 0
theorem ap_FX {nd hp : Nat} {Y : Nat → Prop} {h1 : MH} (a : ap_ok h nd hp) (F : FX nd Y h h1) : ap_ok h1 nd hp := by
  obtain ⟨⟨a1, a2, a3⟩, a4, a5⟩ := a
  have e := (F.2.2 hp a4).1
  refine ⟨⟨by rw [e]; exact a1, a2, by rw [e]; exact a3⟩, by have := F.1; omega, fun z => ?_⟩
  rcases F.2.1.1 0 (by decide) with f | f
  · exact a5 (z.trans f)
  · omega
theorem ap_kp {nd hp : Nat} {Y : Nat → Prop} {h1 : MH} (ok : nl_ok h nd) (a : ap_ok h nd hp) (n : ¬ Y hp) (F : FX nd Y h h1) (j : Nat) : z_i h1 hp j = z_i h hp j := by
  obtain ⟨b1, b2, b3⟩ := nl_ap ok a.1.1 a.2.2
  exact (F.kp a.2.1 b1 b2 b3 n).2.1 j
-- a row's element set anew: what it leaves
theorem st_FX {nd hp j : Nat} {y : Int} {h1 : MH} {H1 : Nat → Nat → Int} (hn : nd ≠ hp) (M1 : RX h h1 H1) (e : H1 = m_u (fun a j => (h_i h a j).toInt) hp (m_u (fun j => (h_i h hp j).toInt) j y)) : FX nd (fun a => a = hp) h h1 := FX.ofRX M1 (by rw [e, m_uN _ _ _ _ hn]; rfl) (fun a ha q => by
  rw [e, m_uN _ _ _ _ (fun z => ha (Or.inr (Or.inr (Or.inr z))))]
  rfl)
theorem st_cs {nd hp j : Nat} {y : Int} {S : PSt} {h1 : MH} {H1 : Nat → Nat → Int} (M1 : RX h h1 H1) (e : H1 = m_u (fun a j => (h_i h a j).toInt) hp (m_u (fun j => (h_i h hp j).toInt) j y)) (ok : nl_ok h nd) (a : ap_ok h nd hp) (I : cs_of h (z_i h) nd S) : nl_ok h1 nd ∧ cs_of h1 (z_i h1) nd S := by
  obtain ⟨b1, b2, b3⟩ := nl_ap ok a.1.1 a.2.2
  have r1 : h_r h1 nd 0 = h_r h nd 0 := by rw [M1.2.2.1.1]
  refine ⟨nl_RX ok M1 ?_, cs_mv I ?_ ?_ (fun q _ => ?_)⟩
  · rw [e, m_uN _ _ _ _ (Ne.symm b1)]
    rfl
  · rw [M1.zi, e, m_uN _ _ _ _ (Ne.symm b1)]
    rfl
  · rw [M1.zi, e, m_uN _ _ _ _ (Ne.symm b1)]
    rfl
  · rw [r1, M1.zi, e, m_uN _ _ _ _ (Ne.symm b2)]
    rfl
theorem st_hp {hp j : Nat} {y : Int} {f : Nat → Int} {h1 : MH} {H1 : Nat → Nat → Int} (M1 : RX h h1 H1) (e : H1 = m_u (fun a j => (h_i h a j).toInt) hp (m_u (fun j => (h_i h hp j).toInt) j y)) (p : hp6 (z_i h hp) f) : hp6 (z_i h1 hp) (m_u f j y) := fun q hq => by
  rw [M1.zi, e, m_uE]
  by_cases c : q = j
  · rw [c, m_uE, m_uE]
  · rw [m_uN _ _ _ _ c, m_uN _ _ _ _ c]
    exact p q hq
theorem l_meR {nd hp ot : Nat} {S : PSt} {f s : Nat → Int} (ok0 : nl_ok h0 nd) (ho : ap_ok h0 nd hp) (oo : ap_ok h0 nd ot) (d3 : ot ≠ hp) (es : hp6 (z_i h0 ot) s) (sh : ps_sh S) (hf : hp_in S f) (hs : hp_in S s) (w : p_ws f 6 + p_ws s 6 ≤ 63) (cap : ps_n S + 6 ≤ 16000) (g : ∀ h' : MH, nl_ok h' nd → cs_of h' (z_i h') nd (pm_run s (S, f, -1) 6).1 → hp6 (z_i h' hp) (pm_run s (S, f, -1) 6).2.1 → FX nd (fun a => a = hp) h0 h' → Q none h') : ∀ (e r : Nat) (lv : List (Nat × Value)) (h : MH) (xc xr : Int32), r + e = 6 → nl_ok h nd → cs_of h (z_i h) nd (pm_run s (S, f, -1) r).1 → hp6 (z_i h hp) (pm_run s (S, f, -1) r).2.1 → xc.toInt = (pm_run s (S, f, -1) r).2.2 → FX nd (fun a => a = hp) h0 h → xr.toInt = (r : Int) → m_lk lv 0 = some (.ref nd) → m_lk lv 1 = some (.ref hp) → m_lk lv 2 = some (.ref ot) → m_lk lv 3 = some (.int xc) → m_lk lv 4 = some (.int xr) → HJ 64 5 lv [] h Q := by
  intro e
  induction e with
  | zero =>
    intro r lv h xc xr he ok I p qc F qr e0 e1 e2 e3 e4
    have r6 : r = 6 := by omega
    subst r6
    have ho' := (ap_FX ho F).1
    have oo' := (ap_FX oo F).1
    refine r_me5 (RX.start h) e0 e1 e2 e3 qc e4 qr (by omega) ho'.1 ho'.2.2 oo'.1 oo'.2.2 ho'.2.1 ok.1.2.1 ok.1.1 (fun _ => g h ok I p F) ?_ ?_ ?_ ?_ ?_ ?_ <;> intros <;> exfalso <;> omega
  | succ e ih =>
    intro r lv h xc xr he ok I p qc F qr e0 e1 e2 e3 e4
    have ho' := ap_FX ho F
    have oo' := ap_FX oo F
    have J := pm_runI sh hf hs w r (by omega)
    have J' := pm_runI sh hf hs w (r + 1) (by omega)
    have rN : (r : Int).toNat = r := Int.toNat_natCast r
    have er : pm_run s (S, f, -1) (r + 1) = pm_st s (pm_run s (S, f, -1) r) r := rfl
    have ef : (pm_run s (S, f, -1) r).2.1 r = f r := J.2.2.1 r (Nat.le_refl _)
    have pf := pm_If J (by omega)
    have pq := pm_Is J hs (by omega)
    have pc := J.1.2.2
    have nX := J.2.1.2
    have r4 := pm_r4 J (by omega) w
    have xf : (h_i h hp r).toInt = f r := (p r (by omega)).trans ef
    have xs : (h_i h ot r).toInt = s r := (ap_kp ok0 oo d3 F r).trans (es r (by omega))
    generalize hX : pm_run s (S, f, -1) r = X at *
    generalize hX2 : pm_run s (S, f, -1) (r + 1) = X2 at *
    have t0 : y_tg (-1) = 0 := rfl
    -- no link
    have nol : ∀ (h2 : MH) (H2 : Nat → Nat → Int) (y : Int) (x1 : Int32) (lv2 : List (Nat × Value)), H2 = m_u (fun a j => (h_i h a j).toInt) hp (m_u (fun j => (h_i h hp j).toInt) r y) → RX h h2 H2 → X2 = (X.1, m_u X.2.1 r y, -1) → x1.toInt = -1 → m_lk lv2 0 = some (.ref nd) → m_lk lv2 1 = some (.ref hp) → m_lk lv2 2 = some (.ref ot) → m_lk lv2 3 = some (.int x1) → m_lk lv2 4 = some (.int xr) → HJ 64 127 lv2 [] h2 Q := fun h2 H2 y x1 lv2 f2 M2 eX q1 a0 a1 a2 a3 a4 => by
      refine r_me127 M2 a0 a1 a2 a3 q1 a4 qr (by omega) (by omega) (fun x3 q3 lv3 b0 b1 b2 b3 b4 => ?_)
      obtain ⟨ok2, I2⟩ := st_cs M2 f2 ok ho' I
      refine ih (r + 1) lv3 h2 x1 x3 (by omega) ok2 ?_ ?_ ?_ (F.trans (st_FX (Ne.symm (nl_ap ok ho'.1.1 ho'.2.2).1) M2 f2)) (by omega) b0 b1 b2 b3 b4
      · rw [hX2, eX]
        exact I2
      · rw [hX2, eX]
        exact st_hp M2 f2 p
      · rw [hX2, eX]
        exact q1
    -- a link
    have lnk : ∀ (pc : Nat) (_ : pc = 49 ∨ pc = 122) (h2 : MH) (H2 : Nat → Nat → Int) (y a b : Int) (xa xb : Int32) (lv2 : List (Nat × Value)), H2 = m_u (fun a j => (h_i h a j).toInt) hp (m_u (fun j => (h_i h hp j).toInt) r y) → RX h h2 H2 → X2 = (ps_link X.1 a b, m_u X.2.1 r y, (ps_n X.1 : Int)) → xa.toInt = a → xb.toInt = b → (0 ≤ a ∧ a < (ps_n X.1 : Int) ∧ ps_k X.1 a.toNat = (r : Int)) → (0 ≤ b ∧ b < (ps_n X.1 : Int) ∧ ps_k X.1 b.toNat = (r : Int)) → r ≤ 4 → m_lk lv2 0 = some (.ref nd) → m_lk lv2 1 = some (.ref hp) → m_lk lv2 2 = some (.ref ot) → m_lk lv2 3 = some (.int xc) → m_lk lv2 4 = some (.int xr) → HJ 65 0 (lv_args 0 [.ref nd, .int xa, .int xb]) [] h2 (fun v h' => HJ 64 pc lv2 (v.toList ++ []) h' Q) := fun pc hpc h2 H2 y a b xa xb lv2 f2 M2 eX qa qb na nb r4 a0 a1 a2 a3 a4 => by
      obtain ⟨ok2, I2⟩ := st_cs M2 f2 ok ho' I
      refine k_link ok2 I2 (by omega) qa qb na.1 na.2.1 nb.1 nb.2.1 (by omega) (by omega) (fun xn h3 qn ok3 I3 F3 => ?_)
      have F2 : FX nd (fun a => a = hp) h h2 := st_FX (Ne.symm (nl_ap ok ho'.1.1 ho'.2.2).1) M2 f2
      have F3' : FX nd (fun a => a = hp) h2 h3 := F3.mono (fun _ z => z.elim)
      have go : ∀ lv3 : List (Nat × Value), m_lk lv3 0 = some (.ref nd) → m_lk lv3 1 = some (.ref hp) → m_lk lv3 2 = some (.ref ot) → m_lk lv3 3 = some (.int xn) → m_lk lv3 4 = some (.int xr) → HJ 64 127 lv3 [] h3 Q := fun lv3 b0 b1 b2 b3 b4 => by
        refine r_me127 (RX.start h3) b0 b1 b2 b3 qn b4 qr (by omega) (by omega) (fun x3 q3 lv4 c0 c1 c2 c3 c4 => ?_)
        refine ih (r + 1) lv4 h3 xn x3 (by omega) ok3 ?_ ?_ ?_ ((F.trans F2).trans F3') (by omega) c0 c1 c2 c3 c4
        · rw [hX2, eX]
          exact I3
        · rw [hX2, eX]
          intro q hq
          rw [ap_kp ok2 (ap_FX ho' F2) (fun z => z) F3 q]
          exact st_hp M2 f2 p q hq
        · rw [hX2, eX]
          exact qn
      rcases hpc with z | z
      · subst z
        exact r_me49 (RX.start h3) a0 a1 a2 a3 qc a4 qr qn (fun lv3 b0 b1 b2 b3 b4 => go lv3 b0 b1 b2 b3 b4)
      · subst z
        exact r_me122 (RX.start h3) a0 a1 a2 a3 qc a4 qr qn (fun lv3 b0 b1 b2 b3 b4 => go lv3 b0 b1 b2 b3 b4)
    refine r_me5 (RX.start h) e0 e1 e2 e3 qc e4 qr (by omega) ho'.1.1 ho'.1.2.2 oo'.1.1 oo'.1.2.2 ho'.1.2.1 ok.1.2.1 ok.1.1 (fun c => absurd c (by omega))
      (fun h13 H13 f13 x14 q14 lv15 M13 a0 a1 a2 a3 a4 _ c27 c68 => ?_)
      (fun h13 H13 f13 x14 q14 lv15 M13 a0 a1 a2 a3 a4 _ c27 c68 c75 => ?_)
      (fun x4 q4 h26 H26 f26 lv24 M26 a0 a1 a2 a3 a4 _ c27 c68 c75 => ?_)
      (fun h13 H13 f13 x14 q14 lv15 M13 a0 a1 a2 a3 a4 _ c27 c33 c68 => ?_)
      (fun x2 q2 h41 H41 f41 lv39 M41 a0 a1 a2 a3 a4 _ c27 c33 c68 => ?_)
      (fun x2 q2 x4 q4 h42 H42 f42 lv5 M42 a0 a1 a2 a3 a4 _ c27 c33 => ?_)
    · rw [rN, xf] at c27
      rw [rN, xs] at f13
      refine nol h13 H13 (s r) x14 lv15 f13 M13 ?_ q14 a0 a1 a2 a3 a4
      rw [er]
      exact pm_st3 (a := f r) (b := s r) (c := X.2.2) (o := s r) ef rfl rfl (fun z => z.1 c27) (pm_oneT c27) (fun z => z.1 c68) (pm_oneT c68)
    · rw [rN, xf] at c27
      rw [rN, xs] at c75
      rw [rN] at f13
      refine nol h13 H13 X.2.2 x14 lv15 f13 M13 ?_ q14 a0 a1 a2 a3 a4
      rw [er]
      exact pm_st3 (a := f r) (b := s r) (c := X.2.2) (o := s r) ef rfl rfl (fun z => z.1 c27) (pm_oneT c27) (fun z => z.2 c75) (pm_oneF c68)
    · rw [rN, xf] at c27
      rw [rN, xs] at c75 q4
      rw [rN] at f26
      have t1 := y_tg1 c68
      have t2 := y_tg1 c75
      refine lnk 122 (Or.inr rfl) h26 H26 (-1) X.2.2 (s r) xc x4 lv24 f26 M26 ?_ qc q4 (pc.resolve_left c68) (pq.resolve_left c75) (r4 (by omega)) a0 a1 a2 a3 a4
      rw [er]
      exact pm_st2 (a := f r) (b := s r) (c := X.2.2) (o := s r) ef rfl rfl (fun z => z.1 c27) c68 (pm_oneT c27) c75
    · rw [rN, xf] at c27 f13
      rw [rN, xs] at c33
      refine nol h13 H13 (f r) x14 lv15 f13 M13 ?_ q14 a0 a1 a2 a3 a4
      rw [er]
      exact pm_st3 (a := f r) (b := s r) (c := X.2.2) (o := f r) ef rfl rfl (fun z => z.2 c33) (pm_oneF c27) (fun z => z.1 c68) (pm_oneT c68)
    · rw [rN, xf] at c27 q2
      rw [rN, xs] at c33
      rw [rN] at f41
      have t1 := y_tg1 c68
      have t2 := y_tg1 c27
      refine lnk 122 (Or.inr rfl) h41 H41 (-1) X.2.2 (f r) xc x2 lv39 f41 M41 ?_ qc q2 (pc.resolve_left c68) (pf.resolve_left c27) (r4 (by omega)) a0 a1 a2 a3 a4
      rw [er]
      exact pm_st2 (a := f r) (b := s r) (c := X.2.2) (o := f r) ef rfl rfl (fun z => z.2 c33) c68 (pm_oneF c27) c27
    · rw [rN, xf] at c27 q2
      rw [rN, xs] at c33 q4
      rw [rN] at f42
      have t1 := y_tg1 c33
      have t2 := y_tg1 c27
      refine lnk 49 (Or.inl rfl) h42 H42 X.2.2 (f r) (s r) x2 x4 lv5 f42 M42 ?_ q2 q4 (pf.resolve_left c27) (pq.resolve_left c33) (r4 (by omega)) a0 a1 a2 a3 a4
      rw [er]
      exact pm_st1 (a := f r) (b := s r) (y := X.2.2) ef rfl rfl c27 c33
theorem k_meld {nd hp ot : Nat} {S : PSt} {f s : Nat → Int} (ok : nl_ok h nd) (ho : ap_ok h nd hp) (oo : ap_ok h nd ot) (d3 : ot ≠ hp) (I : cs_of h (z_i h) nd S) (ef : hp6 (z_i h hp) f) (es : hp6 (z_i h ot) s) (sh : ps_sh S) (hf : hp_in S f) (hs : hp_in S s) (w : p_ws f 6 + p_ws s 6 ≤ 63) (cap : ps_n S + 6 ≤ 16000) (g : ∀ h' : MH, nl_ok h' nd → cs_of h' (z_i h') nd (pm_md S f s).1 → hp6 (z_i h' hp) (pm_md S f s).2 → FX nd (fun a => a = hp) h h' → Q none h') : HJ 64 0 (lv_args 0 [.ref nd, .ref hp, .ref ot]) [] h Q := by
  refine r_me0 (RX.start h) rfl rfl rfl (fun x1 q1 x3 q3 lv4 e0 e1 e2 e3 e4 => ?_)
  exact l_meR ok ho oo d3 es sh hf hs w cap g 6 0 lv4 h x1 x3 rfl ok I ef q1 FX.same q3 e0 e1 e2 e3 e4
end
