section
-- A PAST'S ROWS, ALL OF THEM BY NUMBER: 0 .. 6 the trail's, 7 heap, 8 other, 9 loose, 10 path, 11 cells, 12 sizes, 13 made, 14 links, 15 paid, 16 firsts, 17 seconds, 18 on the versions' roots
def pa_n (i : Nat) : Nat := if i < 7 then 63 else if i < 12 then 6 else if i = 12 then 41 else if i < 16 then 40 else if i < 18 then 41 else 6
theorem pa_wk {h : MH} {pa k : Nat} (hk : k < 7) : pa_w h pa k = h_r h (h_r h (h_r h pa 0) 4) k := if_pos hk
theorem pa_wr {h : MH} {pa v : Nat} : pa_w h pa (18 + v) = h_r h (h_r h pa 2) v := by
  unfold pa_w
  rw [if_neg (by omega), if_neg (by omega), if_neg (by omega), if_neg (by omega), if_neg (by omega), if_neg (by omega), if_neg (by omega), if_neg (by omega), Nat.add_sub_cancel_left]
theorem pa_n6 (i : Nat) : 6 ≤ pa_n i := by
  unfold pa_n
  repeat' split
  all_goals omega
def pa_ok (h : MH) (pa : Nat) : Prop := ((h_k h pa).1 = 4 ∧ 16 ≤ pa ∧ pa < 16 + h_n h) ∧ nl_ok h (h_r h pa 0) ∧ ((h_k h (h_r h (h_r h pa 0) 4)).1 = 8 ∧ 16 ≤ h_r h (h_r h pa 0) 4 ∧ h_r h (h_r h pa 0) 4 < 16 + h_n h) ∧ ((h_k h (h_r h pa 2)).1 = 33 ∧ (h_k h (h_r h pa 2)).2 = 41 ∧ 16 ≤ h_r h pa 2 ∧ h_r h pa 2 < 16 + h_n h) ∧ ((h_k h (h_r h pa 1)).1 = 2 ∧ 16 ≤ h_r h pa 1 ∧ h_r h pa 1 < 16 + h_n h) ∧ ((h_k h (h_r h (h_r h pa 1) 2)).1 = 25 ∧ (h_k h (h_r h (h_r h pa 1) 2)).2 = 41 ∧ 16 ≤ h_r h (h_r h pa 1) 2 ∧ h_r h (h_r h pa 1) 2 < 16 + h_n h ∧ h_r h (h_r h pa 1) 2 ≠ h_r h (h_r h pa 0) 1) ∧ (∀ i, i < 59 → (h_k h (pa_w h pa i)).1 = 20 ∧ 16 ≤ pa_w h pa i ∧ pa_w h pa i < 16 + h_n h ∧ pa_n i ≤ (h_k h (pa_w h pa i)).2 ∧ (h_k h (pa_w h pa i)).2 ≤ 1000000) ∧ ∀ i j, i < 59 → j < 59 → i ≠ j → pa_w h pa i ≠ pa_w h pa j
theorem pa_ap {h : MH} {pa i : Nat} (ok : pa_ok h pa) (hi : i < 59) (h11 : i ≠ 11) : ap_ok h (h_r h pa 0) (pa_w h pa i) := by
  obtain ⟨-, -, -, -, -, -, b, c⟩ := ok
  obtain ⟨b1, b2, b3, b4, -⟩ := b i hi
  have := pa_n6 i
  exact ⟨⟨b1, b2, by omega⟩, b3, c i 11 hi (by decide) h11⟩
theorem pa_nx {h : MH} {pa : Nat} (ok : pa_ok h pa) : nx_ok h (h_r h pa 0) := by
  have ok0 := ok
  obtain ⟨-, n, t, -, -, -, b, c⟩ := ok
  refine ⟨n, ⟨pa_ap ok0 (i := 9) (by decide) (by decide), (b 9 (by decide)).2.2.2.2⟩, pa_ap ok0 (i := 10) (by decide) (by decide), c 9 10 (by decide) (by decide) (by decide), ⟨t, fun k hk => ?_, fun a b' ha hb hn => ?_⟩, fun k hk => ?_⟩
  · rw [← pa_wk (h := h) (pa := pa) hk]
    obtain ⟨b1, b2, b3, b4, -⟩ := b k (by omega)
    have e : pa_n k = 63 := if_pos hk
    exact ⟨b1, b2, b3, by omega⟩
  · rw [← pa_wk (h := h) (pa := pa) ha, ← pa_wk (h := h) (pa := pa) hb]
    exact c a b' (by omega) (by omega) hn
  · rw [← pa_wk (h := h) (pa := pa) hk]
    exact ⟨c k 11 (by omega) (by decide) (by omega), c k 9 (by omega) (by decide) (by omega), c k 10 (by omega) (by decide) (by omega)⟩
theorem pa_hx {h : MH} {pa i : Nat} (ok : pa_ok h pa) (hi : i < 59) (h7 : 7 ≤ i) (h9 : i ≠ 9) (h10 : i ≠ 10) (h11 : i ≠ 11) : hx_ok h (h_r h pa 0) (pa_w h pa i) := by
  have c := ok.2.2.2.2.2.2.2
  exact ⟨pa_ap ok hi h11, c i 9 hi (by decide) h9, c i 10 hi (by decide) h10, fun k hk => by
    rw [← pa_wk (h := h) (pa := pa) hk]
    exact c i k hi (by omega) (by omega)⟩
-- what stands apart from a past's own
theorem pa_ne {h : MH} {pa i : Nat} (ok : pa_ok h pa) (hi : i < 59) : pa ≠ pa_w h pa i ∧ h_r h pa 0 ≠ pa_w h pa i ∧ h_r h (h_r h pa 0) 4 ≠ pa_w h pa i ∧ pa ≠ h_r h pa 0 ∧ pa ≠ h_r h (h_r h pa 0) 4 ∧ pa ≠ h_r h (h_r h pa 0) 1 := by
  obtain ⟨a, n, t, -, -, -, b, -⟩ := ok
  have b1 := (b i hi).1
  refine ⟨fun z => ?_, fun z => ?_, fun z => ?_, fun z => ?_, fun z => ?_, fun z => ?_⟩
  · rw [← z, a.1] at b1
    omega
  · rw [← z, n.1.1] at b1
    omega
  · rw [← z, t.1] at b1
    omega
  · have := n.1.1
    rw [← z, a.1] at this
    omega
  · have := t.1
    rw [← z, a.1] at this
    omega
  · have := n.2.2.1.1
    rw [← z, a.1] at this
    omega
theorem pa_FX {h h' : MH} {pa : Nat} {Y : Nat → Prop} (ok : pa_ok h pa) (o' : nl_ok h' (h_r h pa 0)) (F : FX (h_r h pa 0) Y h h') : pa_ok h' pa ∧ (∀ k, h_r h' pa k = h_r h pa k) ∧ ∀ i, i < 59 → i ≠ 11 → pa_w h' pa i = pa_w h pa i := by
  have ok0 := ok
  obtain ⟨a, n, t, r, li, fr, b, c⟩ := ok
  have N := F.1
  have nod := (pa_ne ok0 (i := 0) (by decide)).2.2.2
  have e0 : ∀ k, h_r h' pa k = h_r h pa k := fun k => (F.2.2 pa a.2.2).2.1 k (fun z => nod.1 z.1)
  have kd : ∀ {x : Nat}, x < 16 + h_n h → h_k h' x = h_k h x := fun {x} hx => (F.2.2 x hx).1
  have tn : h_r h (h_r h pa 0) 4 ≠ h_r h pa 0 := fun z => by
    have := t.1
    rw [z, n.1.1] at this
    omega
  have rn : h_r h pa 2 ≠ h_r h pa 0 := fun z => by
    have := r.1
    rw [z, n.1.1] at this
    omega
  have ln : h_r h pa 1 ≠ h_r h pa 0 := fun z => by
    have := li.1
    rw [z, n.1.1] at this
    omega
  have e4 : h_r h' (h_r h pa 0) 4 = h_r h (h_r h pa 0) 4 := (F.2.2 _ n.1.2.2).2.1 4 (by omega)
  have eR : ∀ {x : Nat} (k : Nat), x < 16 + h_n h → x ≠ h_r h pa 0 → h_r h' x k = h_r h x k := fun {x} k hx hn => (F.2.2 x hx).2.1 k (fun z => hn z.1)
  have eW : ∀ i, i < 59 → i ≠ 11 → pa_w h' pa i = pa_w h pa i := fun i hi h11 => by
    unfold pa_w
    simp only [e0, e4, if_neg h11]
    rw [(F.2.2 _ n.1.2.2).2.1 2 (by omega), (F.2.2 _ n.1.2.2).2.1 3 (by omega), eR _ t.2.2 tn, eR _ li.2.2 ln, eR _ r.2.2.2 rn]
  have w11 : pa_w h' pa 11 = h_r h' (h_r h pa 0) 0 := by
    show h_r h' (h_r h' pa 0) 0 = _
    rw [e0]
  have w11' : pa_w h' pa 11 = pa_w h pa 11 ∨ 16 + h_n h ≤ pa_w h' pa 11 := by
    rw [w11]
    exact F.2.1.1 0 (by decide)
  refine ⟨?_, e0, eW⟩
  have eF : h_r h' (h_r h pa 1) 2 = h_r h (h_r h pa 1) 2 := eR 2 li.2.2 ln
  have f1 : h_r h (h_r h pa 1) 2 ≠ h_r h' (h_r h pa 0) 1 := fun z => by
    rcases F.2.1.1 1 (by decide) with f | f
    · exact fr.2.2.2.2 (z.trans f)
    · have := fr.2.2.2.1
      omega
  unfold pa_ok
  rw [e0, e0, e0, e4, eF, kd a.2.2, kd t.2.2, kd r.2.2.2, kd li.2.2, kd fr.2.2.2.1]
  refine ⟨⟨a.1, a.2.1, by omega⟩, o', ⟨t.1, t.2.1, by omega⟩, ⟨r.1, r.2.1, r.2.2.1, by omega⟩, ⟨li.1, li.2.1, by omega⟩, ⟨fr.1, fr.2.1, fr.2.2.1, by omega, f1⟩, fun i hi => ?_, fun i j hi hj hn => ?_⟩
  · by_cases h11 : i = 11
    · subst h11
      rw [w11]
      obtain ⟨o1, o2, o3, o4, o5, o6, o7⟩ := o'
      exact ⟨o2.1, o2.2.1, o2.2.2, by show 6 ≤ _; omega, by omega⟩
    · rw [eW i hi h11]
      obtain ⟨b1, b2, b3, b4, b5⟩ := b i hi
      rw [kd b3]
      exact ⟨b1, b2, by omega, b4, b5⟩
  · by_cases i11 : i = 11
    · subst i11
      rw [eW j hj (Ne.symm hn)]
      rcases w11' with z | z
      · rw [z]
        exact c 11 j (by decide) hj hn
      · have := (b j hj).2.2.1
        omega
    · by_cases j11 : j = 11
      · subst j11
        rw [eW i hi i11]
        rcases w11' with z | z
        · rw [z]
          exact c i 11 hi (by decide) hn
        · have := (b i hi).2.2.1
          omega
      · rw [eW i hi i11, eW j hj j11]
        exact c i j hi hj hn
-- what an act changes
def py_Y (h : MH) (pa a : Nat) : Prop := a = pa ∨ a = h_r h (h_r h pa 0) 4 ∨ ∃ i, i < 11 ∧ a = pa_w h pa i
theorem py_kp {h h' : MH} {pa i : Nat} (ok : pa_ok h pa) (F : FX (h_r h pa 0) (py_Y h pa) h h') (hi : i < 59) (h12 : 12 ≤ i) (j : Nat) : z_i h' (pa_w h pa i) j = z_i h (pa_w h pa i) j := by
  obtain ⟨n1, n2, n3, -⟩ := pa_ne ok hi
  refine ap_kp ok.2.1 (pa_ap ok hi (by omega)) (fun z => ?_) F j
  rcases z with z | z | ⟨q, hq, z⟩
  · exact n1 z.symm
  · exact n3 z.symm
  · exact ok.2.2.2.2.2.2.2 i q hi (by omega) (by omega) z
section
variable {i pc pc' : Nat} {lv : List (Nat × Value)} {st : List Value} {h : MH} {Q : Option Value → MH → Prop}
theorem hI_ts {d lo hi o : Int} {offs : Array Int} {len t : Nat} {x : Int32} {z : Int} (a : m_at i pc = some (.tableswitch d lo hi offs, len)) (hx : x.toInt = z) (b0 : lo ≤ z) (b1 : z ≤ hi) (ho : offs[(z - lo).toNat]? = some o) (ht : (pc : Int) + o = (t : Int)) (g : HJ i t lv st h Q) : HJ i pc lv (.int x :: st) h Q := by
  refine HJ.ex (pc' := t) a (Or.inr rfl) ?_ g
  show (if x.toInt < lo ∨ hi < x.toInt then m_tg pc d lv st h else (match offs[(x.toInt - lo).toNat]? with
      | some o => m_tg pc o lv st h
      | none => none)) = _
  rw [hx, if_neg (by omega), ho]
  show m_tg pc o lv st h = _
  unfold m_tg
  rw [ht, if_pos (Int.natCast_nonneg t), Int.toNat_natCast]
end
section
variable {lv : List (Nat × Value)} {Q : Option Value → MH → Prop} {h0 h : MH} {H : Nat → Nat → Int}
theorem hR_cp {i pc pc' idx nest o to : Nat} {xs xd xn : Int32} (M : RX h0 h H) (ko : (h_k h0 o).1 = 20) (kt : (h_k h0 to).1 = 20) (o16 : 16 ≤ o) (t16 : 16 ≤ to) (lo : 6 ≤ (h_k h0 o).2) (lt : 6 ≤ (h_k h0 to).2) (qs : xs.toInt = 0) (qd : xd.toInt = 0) (qn : xn.toInt = 6) (a : m_at i pc = some (.invokestatic idx, 3)) (hm : m_ml i idx = some (nest, 901)) (hc : 1 ≤ m_fr i ∧ 0 + 18 ≤ m_lo i) (hp : pc + 3 = pc') (g : ∀ (h' : MH) (H' : Nat → Nat → Int), RX h0 h' H' → H' = m_u H to (fun j => if j < 6 then H o j else H to j) → HJ i pc' lv [] h' Q) : HJ i pc lv [.int xn, .int xd, .ref to, .int xs, .ref o] h Q := by
  have es : xs.toNatClampNeg = 0 := by show xs.toInt.toNat = 0; omega
  have ed : xd.toNatClampNeg = 0 := by show xd.toInt.toNat = 0; omega
  have en : xn.toNatClampNeg = 6 := by show xn.toInt.toNat = 6; omega
  have z0 : (0 : Int32).toInt = 0 := rfl
  refine hI_cp (h' := h_cpi h o to 0 0 6) (st := []) a hm ⟨o16, t16, fun z => ?_, fun z => ?_, fun z => ?_, by rw [es, en, M.2.1]; omega, by rw [ed, en, M.2.1]; omega, hc.1, hc.2, by decide⟩ (Or.inl ⟨by rw [M.2.1]; exact ko, by rw [M.2.1]; exact kt, by rw [es, ed, en]⟩) hp (g _ _ ⟨M.1, M.2.1, M.2.2.1, fun b j => ?_⟩ rfl)
  · have := Int32.lt_iff_toInt_lt.mp z
    omega
  · have := Int32.lt_iff_toInt_lt.mp z
    omega
  · have := Int32.lt_iff_toInt_lt.mp z
    omega
  · rw [s_cpI]
    by_cases e : b = to
    · subst e
      rw [m_uE]
      by_cases f : j < 6
      · rw [if_pos ⟨rfl, by omega, by omega⟩, if_pos f, M.2.2.2]
        simp
      · rw [if_neg (fun z => f (by omega)), if_neg f, M.2.2.2]
    · rw [if_neg (fun z => e z.1), m_uN _ _ _ _ e, M.2.2.2]
theorem r_lk0 {nd hp : Nat} (M : RX h0 h H) (e0 : m_lk lv 0 = some (.ref nd)) (e1 : m_lk lv 1 = some (.ref hp))  (hs0 : 16 ≤ nd) (hk0 : (h_k h0 nd).1 = 3)
    (g0 : HJ 72 0 (lv_args 0 [.ref nd, .ref hp]) [] h (fun v h' => HJ 80 5 lv (v.toList ++ []) h' Q))
    : HJ 80 0 lv [] h Q := by
  refine hI_al (k := 0) rfl e0 rfl ?_ -- 0
  refine hI_al (k := 1) rfl e1 rfl ?_ -- 1
  refine HJ.call (j := 72) (as := [.ref nd, .ref hp]) (rr := []) (pc' := 5) (m_cR (kc := 2) rfl rfl (by decide +kernel) rfl rfl rfl ⟨rfl, by decide +kernel, by decide +kernel⟩ (by decide) hs0 (by rw [M.2.1]; exact hk0)) (by show 2 ≤ m_lc 72; decide +kernel) ?_ -- 2
  exact g0 
theorem r_lk5 {nd hp : Nat} {k : Int} (M : RX h0 h H) (e0 : m_lk lv 0 = some (.ref nd)) (e1 : m_lk lv 1 = some (.ref hp)) {sx0 : Int32} (sq0 : sx0.toInt = k) (pk0 : -1 ≤ k) (pk1 : k ≤ 5) (ha0 : (h_k h0 hp).1 = 20) (hl0 : 6 ≤ ((h_k h0 hp).2 : Int)) (hs0 : 16 ≤ nd) (hk0 : (h_k h0 nd).1 = 3)
    (g0 : ∀ x3 : Int32, x3.toInt = H hp (k).toNat → ∀ lv1 : List (Nat × Value), m_lk lv1 0 = some (.ref nd) → m_lk lv1 1 = some (.ref hp) → m_lk lv1 2 = some (.int sx0) → k ≠ (-1) → HJ 66 0 (lv_args 0 [.ref nd, .int x3]) [] h (fun v h' => HJ 80 22 lv1 (v.toList ++ []) h' Q))
    (g1 : ∀ x4 : Int32, x4.toInt = (-1) → ∀ lv1 : List (Nat × Value), k = (-1) → Q (some (.int x4)) h)
    : HJ 80 5 lv [.int sx0] h Q := by
  refine hM_si (k := 2) rfl (by decide +kernel) rfl (fun lv1 e1_2 u1 => ?_) -- 5
  have e1_0 := u1 0 _ (by decide) (Or.inl rfl) e0
  have e1_1 := u1 1 _ (by decide) (Or.inl rfl) e1
  refine hI_il (k := 2) rfl e1_2 rfl ?_ -- 6
  refine hM_ic (n := (-1)) rfl (by decide) rfl (fun x2 q2 => ?_) -- 7
  refine hM_cne (off := 7) (t := 15) rfl sq0 q2 (by decide) rfl (fun c8 => ?_) (fun c8 => ?_) -- 8
  · refine hI_al (k := 0) rfl e1_0 rfl ?_ -- 15
    refine hI_al (k := 1) rfl e1_1 rfl ?_ -- 16
    refine hI_il (k := 2) rfl e1_2 rfl ?_ -- 17
    refine hR_ia M ha0 sq0 (by omega) (by omega) rfl rfl (fun x3 q3 => ?_) -- 18
    have gb3 : -2147483648 ≤ H hp (k).toNat ∧ H hp (k).toNat ≤ 2147483647 := by rw [← q3]; exact g_iT _
    refine HJ.call (j := 66) (as := [.ref nd, .int x3]) (rr := []) (pc' := 22) (m_cR (kc := 2) rfl rfl (by decide +kernel) rfl rfl rfl ⟨rfl, by decide +kernel, by decide +kernel⟩ (by decide) hs0 (by rw [M.2.1]; exact hk0)) (by show 2 ≤ m_lc 66; decide +kernel) ?_ -- 19
    exact g0 x3 q3 lv1 e1_0 e1_1 e1_2 c8
  · refine hM_ic (n := (-1)) rfl (by decide) rfl (fun x4 q4 => ?_) -- 11
    refine hI_go (pc' := 25) (off := 13) rfl (by decide) ?_ -- 12
    refine hI_ri rfl rfl ?_ -- 25
    exact g1 x4 q4 lv1 c8
theorem r_lk22 {w : Int} (M : RX h0 h H) {sx0 : Int32} (sq0 : sx0.toInt = w) 
    (g0 : HJ 78 0 (lv_args 0 [.int sx0]) [] h (fun v h' => HJ 80 25 lv (v.toList ++ []) h' Q))
    : HJ 80 22 lv [.int sx0] h Q := by
  refine hM_is0 (as := [.int sx0]) (r := []) rfl rfl (by decide +kernel) rfl rfl rfl rfl rfl ?_ -- 22
  exact g0 
theorem r_lk25 {w : Int} (M : RX h0 h H) {sx0 : Int32} (sq0 : sx0.toInt = w) 
    (g0 : Q (some (.int sx0)) h)
    : HJ 80 25 lv [.int sx0] h Q := by
  refine hI_ri rfl rfl ?_ -- 25
  exact g0 
theorem k_lkey {nd hp : Nat} {S : PSt} {f : Nat → Int} (M : RX h0 h H) (ok : nd_ok h0 nd (ps_n S)) (I : cs_of h0 H nd S) (hok : hp_ok h0 hp) (e : hp6 (H hp) f) (ho : hp_in S f) (g : ∀ x : Int32, x.toInt = (if pm_le S f 6 = -1 then -1 else ps_y S (f (pm_le S f 6).toNat).toNat) → Q (some (.int x)) h) : HJ 80 0 (lv_args 0 [.ref nd, .ref hp]) [] h Q := by
  have L := pm_leL (S := S) (f := f) 6
  have L1 : -1 ≤ pm_le S f 6 ∧ pm_le S f 6 ≤ 5 := by
    rcases L with z | z <;> omega
  refine r_lk0 M rfl rfl ok.1.2 ok.1.1 (k_least M ok I hok e ho (fun xk qk => ?_))
  refine r_lk5 M rfl rfl qk L1.1 L1.2 hok.1 hok.2.2 ok.1.2 ok.1.1 (fun x3 q3 lv1 e0 e1 e2 c => ?_) (fun x4 q4 _ c => g x4 (by rw [if_pos c]; exact q4))
  obtain ⟨l0, l1, l2⟩ := L.resolve_left (fun z => c z.1)
  rw [e _ (by omega)] at q3
  obtain ⟨r0, r1, r2⟩ := (ho _ (by omega)).resolve_left l2
  refine k_wt M ok I q3 r0 r1 (fun xw qw => ?_)
  obtain ⟨-, t, y, -⟩ := I.2.2.2.2 (f (pm_le S f 6).toNat).toNat (by omega)
  refine r_lk22 M qw (k_keyIn qw t.1 t.2 y.1 (fun w qw2 => ?_))
  exact r_lk25 M qw2 (g w (by rw [if_neg c]; exact qw2))
theorem r_hs0 {pa : Nat} (M : RX h0 h H) (e0 : m_lk lv 0 = some (.ref pa)) 
    (g0 : ∀ x1 : Int32, x1.toInt = 0 → ∀ x3 : Int32, x3.toInt = 0 → ∀ lv4 : List (Nat × Value), m_lk lv4 0 = some (.ref pa) → m_lk lv4 1 = some (.int x1) → m_lk lv4 2 = some (.int x3) → HJ 50 4 lv4 [] h Q)
    : HJ 50 0 lv [] h Q := by
  refine hM_ic (n := 0) rfl (by decide) rfl (fun x1 q1 => ?_) -- 0
  refine hM_si (k := 1) rfl (by decide +kernel) rfl (fun lv2 e2_1 u2 => ?_) -- 1
  have e2_0 := u2 0 _ (by decide) (Or.inl rfl) e0
  refine hM_ic (n := 0) rfl (by decide) rfl (fun x3 q3 => ?_) -- 2
  refine hM_si (k := 2) rfl (by decide +kernel) rfl (fun lv4 e4_2 u4 => ?_) -- 3
  have e4_0 := u4 0 _ (by decide) (Or.inl rfl) e2_0
  have e4_1 := u4 1 _ (by decide) (Or.inl rfl) e2_1
  exact g0 x1 q1 x3 q3 lv4 e4_0 e4_1 e4_2
theorem r_hs4 {pa : Nat} {n r : Int} (M : RX h0 h H) (e0 : m_lk lv 0 = some (.ref pa)) {lx1 : Int32} (e1 : m_lk lv 1 = some (.int lx1)) (lq1 : lx1.toInt = n) {lx2 : Int32} (e2 : m_lk lv 2 = some (.int lx2)) (lq2 : lx2.toInt = r) (pn0 : 0 ≤ n) (pn1 : n ≤ 63) (pr0 : 0 ≤ r) (pp0 : 0 ≤ (2 : Int) ^ (r).toNat) (pp1 : (2 : Int) ^ (r).toNat ≤ 64) (hk0 : (h_k h0 pa).1 = 4) (ha0 : (h_k h0 (h_r h0 pa 7)).1 = 20) (hl0 : 6 ≤ ((h_k h0 (h_r h0 pa 7)).2 : Int))
    (g0 : r ≥ 6 → Q (some (.int lx1)) h)
    (g1 : ∀ x4 : Int32, x4.toInt = r + 1 → ∀ lv4 : List (Nat × Value), m_lk lv4 0 = some (.ref pa) → m_lk lv4 1 = some (.int lx1) → m_lk lv4 2 = some (.int x4) → r < 6 → H (h_r h0 pa 7) (r).toNat = (-1) → HJ 50 4 lv4 [] h Q)
    (g2 : ∀ x7 : Int32, x7.toInt = n + ((2 : Int) ^ (r).toNat) → ∀ x9 : Int32, x9.toInt = r + 1 → ∀ lv9 : List (Nat × Value), m_lk lv9 0 = some (.ref pa) → m_lk lv9 1 = some (.int x7) → m_lk lv9 2 = some (.int x9) → r < 6 → H (h_r h0 pa 7) (r).toNat ≠ (-1) → HJ 50 4 lv9 [] h Q)
    : HJ 50 4 lv [] h Q := by
  refine hI_il (k := 2) rfl e2 rfl ?_ -- 4
  refine hM_bp (n := 6) rfl (by decide) rfl (fun x1 q1 => ?_) -- 5
  refine hM_cge (off := 25) (t := 32) rfl lq2 q1 (by decide) rfl (fun c7 => ?_) (fun c7 => ?_) -- 7
  · refine hI_il (k := 1) rfl e1 rfl ?_ -- 32
    refine hI_ri rfl rfl ?_ -- 33
    exact g0 c7
  · refine hI_al (k := 0) rfl e0 rfl ?_ -- 10
    refine hR_gr (c := 3) (k := 7) M hk0 rfl rfl rfl rfl ?_ -- 11
    refine hI_il (k := 2) rfl e2 rfl ?_ -- 14
    refine hR_ia M ha0 lq2 (by omega) (by omega) rfl rfl (fun x2 q2 => ?_) -- 15
    have gb2 : -2147483648 ≤ H (h_r h0 pa 7) (r).toNat ∧ H (h_r h0 pa 7) (r).toNat ≤ 2147483647 := by rw [← q2]; exact g_iT _
    refine hM_ic (n := (-1)) rfl (by decide) rfl (fun x3 q3 => ?_) -- 16
    refine hM_ceq (off := 9) (t := 26) rfl q2 q3 (by decide) rfl (fun c17 => ?_) (fun c17 => ?_) -- 17
    · refine hM_inc (k := 2) (z := 1) rfl e2 lq2 (by decide) (by omega) (by omega) (by decide +kernel) rfl (fun lv4 x4 q4 e4_2 u4 => ?_) -- 26
      have e4_0 := u4 0 _ (by decide) (Or.inl rfl) e0
      have e4_1 := u4 1 _ (by decide) (Or.inl rfl) e1
      refine hI_go (pc' := 4) (off := (-25)) rfl (by decide) ?_ -- 29
      exact g1 x4 q4 lv4 e4_0 e4_1 e4_2 c7 c17
    · refine hI_il (k := 1) rfl e1 rfl ?_ -- 20
      refine hM_ic (n := 1) rfl (by decide) rfl (fun x5 q5 => ?_) -- 21
      refine hI_il (k := 2) rfl e2 rfl ?_ -- 22
      refine hM_shl rfl q5 lq2 (by omega) (by omega) rfl (fun x6 q6 => ?_) -- 23
      refine hM_add rfl lq1 q6 (by omega) (by omega) rfl (fun x7 q7 => ?_) -- 24
      refine hM_si (k := 1) rfl (by decide +kernel) rfl (fun lv8 e8_1 u8 => ?_) -- 25
      have e8_0 := u8 0 _ (by decide) (Or.inl rfl) e0
      have e8_2 := u8 2 _ (by decide) (Or.inl rfl) e2
      refine hM_inc (k := 2) (z := 1) rfl e8_2 lq2 (by decide) (by omega) (by omega) (by decide +kernel) rfl (fun lv9 x9 q9 e9_2 u9 => ?_) -- 26
      have e9_0 := u9 0 _ (by decide) (Or.inl rfl) e8_0
      have e9_1 := u9 1 _ (by decide) (Or.inl rfl) e8_1
      refine hI_go (pc' := 4) (off := (-25)) rfl (by decide) ?_ -- 29
      exact g2 x7 q7 x9 q9 lv9 e9_0 e9_1 e9_2 c7 c17
theorem l_hsR {pa : Nat} {f : Nat → Int} (M : RX h0 h H) (kp : (h_k h0 pa).1 = 4) (hok : hp_ok h0 (h_r h0 pa 7)) (ef : hp6 (H (h_r h0 pa 7)) f) (g : ∀ x : Int32, x.toInt = (p_ws f 6 : Int) → Q (some (.int x)) h) : ∀ (d r : Nat) (lv : List (Nat × Value)) (xn xr : Int32), r + d = 6 → xn.toInt = (p_ws f r : Int) → xr.toInt = (r : Int) → m_lk lv 0 = some (.ref pa) → m_lk lv 1 = some (.int xn) → m_lk lv 2 = some (.int xr) → HJ 50 4 lv [] h Q := by
  intro d
  induction d with
  | zero =>
    intro r lv xn xr hd hn hr e0 e1 e2
    have r6 : r = 6 := by omega
    subst r6
    have b := p_wsL (f := f) 6
    exact r_hs4 M e0 e1 hn e2 hr (by omega) (by omega) (by omega) (by decide) (by decide) kp hok.1 hok.2.2 (fun _ => g xn hn) (fun _ _ _ _ _ _ c => absurd c (by omega)) (fun _ _ _ _ _ _ _ _ c => absurd c (by omega))
  | succ d ih =>
    intro r lv xn xr hd hn hr e0 e1 e2
    have b := p_wsL (f := f) r
    have b2 := n_2q (k := r) (by omega)
    have b3 := i_2q (k := r) (by omega)
    have er := ef r (by omega)
    refine r_hs4 M e0 e1 hn e2 hr (by omega) (by omega) (by omega) (by rw [Int.toNat_natCast]; omega) (by rw [Int.toNat_natCast]; omega) kp hok.1 hok.2.2 (fun c => absurd c (by omega)) (fun x4 q4 lv4 a0 a1 a2 _ c => ?_) (fun x7 q7 x9 q9 lv9 a0 a1 a2 _ c => ?_)
    · rw [Int.toNat_natCast, er] at c
      refine ih (r + 1) lv4 xn x4 (by omega) ?_ (by omega) a0 a1 a2
      rw [p_ws, y_tg0 c]
      omega
    · rw [Int.toNat_natCast] at c q7
      rw [er] at c
      refine ih (r + 1) lv9 x7 x9 (by omega) ?_ (by omega) a0 a1 a2
      rw [p_ws, y_tg1 c]
      omega
theorem k_hs {pa : Nat} {f : Nat → Int} (M : RX h0 h H) (kp : (h_k h0 pa).1 = 4) (hok : hp_ok h0 (h_r h0 pa 7)) (ef : hp6 (H (h_r h0 pa 7)) f) (g : ∀ x : Int32, x.toInt = (p_ws f 6 : Int) → Q (some (.int x)) h) : HJ 50 0 (lv_args 0 [.ref pa]) [] h Q := by
  refine r_hs0 M rfl (fun x1 q1 x3 q3 lv4 e0 e1 e2 => ?_)
  exact l_hsR M kp hok ef g 6 0 lv4 x1 x3 rfl q1 q3 e0 e1 e2
theorem r_has {pa : Nat} {v : Int} (M : RX h0 h H) (e0 : m_lk lv 0 = some (.ref pa)) {lx1 : Int32} (e1 : m_lk lv 1 = some (.int lx1)) (lq1 : lx1.toInt = v)  (hk0 : (h_k h0 pa).1 = 4)
    (g0 : ∀ x1 : Int32, x1.toInt = 0 → v < 0 → Q (some (.int x1)) h)
    (g1 : ∀ x3 : Int32, x3.toInt = 0 → v ≥ 0 → v > H pa 11 → Q (some (.int x3)) h)
    (g2 : ∀ x4 : Int32, x4.toInt = 1 → v ≥ 0 → v ≤ H pa 11 → Q (some (.int x4)) h)
    : HJ 57 0 lv [] h Q := by
  refine hI_il (k := 1) rfl e1 rfl ?_ -- 0
  refine hM_zlt (off := 15) (t := 16) rfl lq1 (by decide) rfl (fun c1 => ?_) (fun c1 => ?_) -- 1
  · refine hM_ic (n := 0) rfl (by decide) rfl (fun x1 q1 => ?_) -- 16
    refine hM_rb rfl rfl q1 (by omega) (by omega) ?_ -- 17
    exact g0 x1 q1 c1
  · refine hI_il (k := 1) rfl e1 rfl ?_ -- 4
    refine hI_al (k := 0) rfl e0 rfl ?_ -- 5
    refine hR_gi (c := 3) (k := 11) M hk0 rfl rfl rfl rfl (fun x2 q2 => ?_) -- 6
    have gb2 : -2147483648 ≤ H pa 11 ∧ H pa 11 ≤ 2147483647 := by rw [← q2]; exact g_iT _
    refine hM_cgt (off := 7) (t := 16) rfl lq1 q2 (by decide) rfl (fun c9 => ?_) (fun c9 => ?_) -- 9
    · refine hM_ic (n := 0) rfl (by decide) rfl (fun x3 q3 => ?_) -- 16
      refine hM_rb rfl rfl q3 (by omega) (by omega) ?_ -- 17
      exact g1 x3 q3 c1 c9
    · refine hM_ic (n := 1) rfl (by decide) rfl (fun x4 q4 => ?_) -- 12
      refine hI_go (pc' := 17) (off := 4) rfl (by decide) ?_ -- 13
      refine hM_rb rfl rfl q4 (by omega) (by omega) ?_ -- 17
      exact g2 x4 q4 c1 c9
theorem k_has {pa : Nat} {v : Int} {xv : Int32} (M : RX h0 h H) (kp : (h_k h0 pa).1 = 4) (qv : xv.toInt = v) (g : ∀ x : Int32, (x.toInt = 1 ∧ 0 ≤ v ∧ v ≤ H pa 11) ∨ (x.toInt = 0 ∧ ¬ (0 ≤ v ∧ v ≤ H pa 11)) → Q (some (.int x)) h) : HJ 57 0 (lv_args 0 [.ref pa, .int xv]) [] h Q :=
  r_has M rfl rfl qv kp (fun x q c => g x (Or.inr ⟨q, fun z => by omega⟩)) (fun x q _ c => g x (Or.inr ⟨q, fun z => by omega⟩)) (fun x q c1 c2 => g x (Or.inl ⟨q, c1, c2⟩))
theorem r_ld0 {pa to : Nat} {v : Int} (M : RX h0 h H) (e0 : m_lk lv 0 = some (.ref pa)) {lx1 : Int32} (e1 : m_lk lv 1 = some (.int lx1)) (lq1 : lx1.toInt = v) (e2 : m_lk lv 2 = some (.ref to))  (hs0 : 16 ≤ pa) (hk0 : (h_k h0 pa).1 = 4)
    (g0 : HJ 57 0 (lv_args 0 [.ref pa, .int lx1]) [] h (fun v h' => HJ 58 5 lv (v.toList ++ []) h' Q))
    : HJ 58 0 lv [] h Q := by
  refine hI_al (k := 0) rfl e0 rfl ?_ -- 0
  refine hI_il (k := 1) rfl e1 rfl ?_ -- 1
  refine HJ.call (j := 57) (as := [.ref pa, .int lx1]) (rr := []) (pc' := 5) (m_cR (kc := 3) rfl rfl (by decide +kernel) rfl rfl rfl ⟨rfl, by decide +kernel, by decide +kernel⟩ (by decide) hs0 (by rw [M.2.1]; exact hk0)) (by show 2 ≤ m_lc 57; decide +kernel) ?_ -- 2
  exact g0 
theorem r_ld5 {pa to : Nat} {v z : Int} (M : RX h0 h H) (e0 : m_lk lv 0 = some (.ref pa)) {lx1 : Int32} (e1 : m_lk lv 1 = some (.int lx1)) (lq1 : lx1.toInt = v) (e2 : m_lk lv 2 = some (.ref to)) {sx0 : Int32} (sq0 : sx0.toInt = z) (pv0 : z ≠ 0 → 0 ≤ v ∧ v ≤ 40) (hk0 : (h_k h0 pa).1 = 4) (hA0 : (h_k h0 (h_r h0 pa 2)).1 = 33) (hl0 : 41 ≤ ((h_k h0 (h_r h0 pa 2)).2 : Int))
    (g0 : z = 0 → Q none h)
    (g1 : ∀ x2 : Int32, x2.toInt = 0 → ∀ x3 : Int32, x3.toInt = 0 → ∀ x4 : Int32, x4.toInt = 6 → z ≠ 0 → HJ 58 19 lv [.int x4, .int x3, .ref to, .int x2, .ref (h_r h0 (h_r h0 pa 2) (v).toNat)] h Q)
    : HJ 58 5 lv [.int sx0] h Q := by
  refine hM_zeq (off := 17) (t := 22) rfl sq0 (by decide) rfl (fun c5 => ?_) (fun c5 => ?_) -- 5
  · refine hI_rv rfl rfl ?_
    exact g0 c5
  · refine hI_al (k := 0) rfl e0 rfl ?_ -- 8
    refine hR_gr (c := 3) (k := 2) M hk0 rfl rfl rfl rfl ?_ -- 9
    refine hI_il (k := 1) rfl e1 rfl ?_ -- 12
    refine hR_aa M hA0 lq1 (by omega) (by omega) rfl rfl ?_ -- 13
    refine hM_ic (n := 0) rfl (by decide) rfl (fun x2 q2 => ?_) -- 14
    refine hI_al (k := 2) rfl e2 rfl ?_ -- 15
    refine hM_ic (n := 0) rfl (by decide) rfl (fun x3 q3 => ?_) -- 16
    refine hM_bp (n := 6) rfl (by decide) rfl (fun x4 q4 => ?_) -- 17
    exact g1 x2 q2 x3 q3 x4 q4 c5
theorem k_load {pa to : Nat} {v : Int} {xv : Int32} (M : RX h0 h H) (ok : pa_ok h0 pa) (qv : xv.toInt = v) (v0 : 0 ≤ v) (v1 : v ≤ H pa 11) (s1 : H pa 11 ≤ 40) (kt : hp_ok h0 to) (g : ∀ (h' : MH) (H' : Nat → Nat → Int), RX h0 h' H' → H' = m_u H to (fun j => if j < 6 then H (pa_w h0 pa (18 + v.toNat)) j else H to j) → Q none h') : HJ 58 0 (lv_args 0 [.ref pa, .int xv, .ref to]) [] h Q := by
  refine r_ld0 M rfl rfl qv rfl ok.1.2.1 ok.1.1 (k_has M ok.1.1 qv (fun x hx => ?_))
  have r := ok.2.2.2.1
  obtain ⟨b1, b2, -, b4, -⟩ := ok.2.2.2.2.2.2.1 (18 + v.toNat) (by omega)
  have n6 := pa_n6 (18 + v.toNat)
  rw [pa_wr] at b1 b2 b4
  refine r_ld5 M rfl rfl qv rfl rfl (fun _ => ⟨v0, by omega⟩) ok.1.1 r.1 (by omega) (fun c => ?_) (fun x2 q2 x3 q3 x4 q4 _ => ?_)
  · rcases hx with z | z
    · omega
    · exact absurd ⟨v0, v1⟩ z.2
  · refine hR_cp M b1 kt.1 b2 kt.2.1 (by omega) (by have := kt.2.2; omega) q2 q3 q4 rfl rfl ⟨by decide +kernel, by decide +kernel⟩ rfl (fun h' H' M' e' => ?_)
    exact hI_rv rfl rfl (g h' H' M' (by rw [pa_wr]; exact e'))
theorem r_kh0 {pa : Nat} (M : RX h0 h H) (e0 : m_lk lv 0 = some (.ref pa)) (ps0 : 0 ≤ H pa 11) (ps1 : H pa 11 ≤ 40) (hk0 : (h_k h0 pa).1 = 4) (hA0 : (h_k h0 (h_r h0 pa 2)).1 = 33) (hl0 : 41 ≤ ((h_k h0 (h_r h0 pa 2)).2 : Int))
    (g0 : ∀ x1 : Int32, x1.toInt = 0 → ∀ x4 : Int32, x4.toInt = 0 → ∀ x5 : Int32, x5.toInt = 6 → HJ 49 17 lv [.int x5, .int x4, .ref (h_r h0 (h_r h0 pa 2) (H pa 11).toNat), .int x1, .ref (h_r h0 pa 7)] h Q)
    : HJ 49 0 lv [] h Q := by
  refine hI_al (k := 0) rfl e0 rfl ?_ -- 0
  refine hR_gr (c := 3) (k := 7) M hk0 rfl rfl rfl rfl ?_ -- 1
  refine hM_ic (n := 0) rfl (by decide) rfl (fun x1 q1 => ?_) -- 4
  refine hI_al (k := 0) rfl e0 rfl ?_ -- 5
  refine hR_gr (c := 3) (k := 2) M hk0 rfl rfl rfl rfl ?_ -- 6
  refine hI_al (k := 0) rfl e0 rfl ?_ -- 9
  refine hR_gi (c := 3) (k := 11) M hk0 rfl rfl rfl rfl (fun x2 q2 => ?_) -- 10
  have gb2 : -2147483648 ≤ H pa 11 ∧ H pa 11 ≤ 2147483647 := by rw [← q2]; exact g_iT _
  refine hR_aa M hA0 q2 (by omega) (by omega) rfl rfl ?_ -- 13
  refine hM_ic (n := 0) rfl (by decide) rfl (fun x4 q4 => ?_) -- 14
  refine hM_bp (n := 6) rfl (by decide) rfl (fun x5 q5 => ?_) -- 15
  exact g0 x1 q1 x4 q4 x5 q5
theorem r_kh20 {pa : Nat} (M : RX h0 h H) (e0 : m_lk lv 0 = some (.ref pa))  (hk0 : (h_k h0 pa).1 = 4) (hs0 : 16 ≤ pa)
    (g0 : ∀ x1 : Int32, x1.toInt = H pa 11 → HJ 50 0 (lv_args 0 [.ref pa]) [] h (fun v h' => HJ 49 32 lv (v.toList ++ [.int x1, .ref (h_r h0 pa 3)]) h' Q))
    : HJ 49 20 lv [] h Q := by
  refine hI_al (k := 0) rfl e0 rfl ?_ -- 20
  refine hR_gr (c := 3) (k := 3) M hk0 rfl rfl rfl rfl ?_ -- 21
  refine hI_al (k := 0) rfl e0 rfl ?_ -- 24
  refine hR_gi (c := 3) (k := 11) M hk0 rfl rfl rfl rfl (fun x1 q1 => ?_) -- 25
  have gb1 : -2147483648 ≤ H pa 11 ∧ H pa 11 ≤ 2147483647 := by rw [← q1]; exact g_iT _
  refine hI_al (k := 0) rfl e0 rfl ?_ -- 28
  refine HJ.call (j := 50) (as := [.ref pa]) (rr := [.int x1, .ref (h_r h0 pa 3)]) (pc' := 32) (m_cR (kc := 3) rfl rfl (by decide +kernel) rfl rfl rfl ⟨rfl, by decide +kernel, by decide +kernel⟩ (by decide) hs0 (by rw [M.2.1]; exact hk0)) (by show 1 ≤ m_lc 50; decide +kernel) ?_ -- 29
  exact g0 x1 q1
theorem r_kh32 {pa : Nat} {s z : Int} (M : RX h0 h H) (e0 : m_lk lv 0 = some (.ref pa)) {sx1 : Int32} (sq1 : sx1.toInt = s) {sx2 : Int32} (sq2 : sx2.toInt = z) (ps0 : 0 ≤ s) (ps1 : s ≤ 40) (ha0 : (h_k h0 (h_r h0 pa 3)).1 = 20) (hl0 : 41 ≤ ((h_k h0 (h_r h0 pa 3)).2 : Int)) (hs0 : 16 ≤ h_r h0 pa 3)
    (g0 : ∀ h1 : MH, ∀ H1 : Nat → Nat → Int, H1 = m_u H (h_r h0 pa 3) (m_u (H (h_r h0 pa 3)) (s).toNat (z)) → RX h0 h1 H1 → Q none h1)
    : HJ 49 32 lv [.int sx2, .int sx1, .ref (h_r h0 pa 3)] h Q := by
  refine hR_is M hs0 ha0 sq1 sq2 (by omega) (by omega) rfl rfl (fun h1 H1 f1 M1 => ?_) -- 32
  refine hI_rv rfl rfl ?_
  exact g0 h1 H1 f1 M1
-- the heap kept as a version
theorem k_keep {pa s : Nat} {f : Nat → Int} (M : RX h0 h H) (ok : pa_ok h0 pa) (es : H pa 11 = (s : Int)) (s40 : s ≤ 40) (ef : hp6 (H (h_r h0 pa 7)) f) (g : ∀ (h' : MH) (H' : Nat → Nat → Int), RX h0 h' H' → (∀ a, a ≠ pa_w h0 pa (18 + s) → a ≠ h_r h0 pa 3 → H' a = H a) → hp6 (H' (pa_w h0 pa (18 + s))) f → H' (h_r h0 pa 3) = m_u (H (h_r h0 pa 3)) s (p_ws f 6 : Int) → Q none h') : HJ 49 0 (lv_args 0 [.ref pa]) [] h Q := by
  have ok0 := ok
  obtain ⟨a, -, -, r, -, -, b, c⟩ := ok
  obtain ⟨b1, b2, -, b4, -⟩ := b (18 + s) (by omega)
  obtain ⟨h1, h2, -, h4, -⟩ := b 7 (by decide)
  obtain ⟨z1, z2, -, z4, -⟩ := b 12 (by decide)
  have n6 := pa_n6 (18 + s)
  have d1 := c 7 (18 + s) (by decide) (by omega) (by omega)
  have d2 := c 12 (18 + s) (by decide) (by omega) (by omega)
  have d3 := c 12 7 (by decide) (by decide) (by decide)
  have n12 : pa_n 12 = 41 := rfl
  have n7 : pa_n 7 = 6 := rfl
  have kp := (pa_ne ok0 (i := 18 + s) (by omega)).1
  rw [pa_wr] at b1 b2 b4 d1 d2 kp
  have e7 : pa_w h0 pa 7 = h_r h0 pa 7 := rfl
  have e12 : pa_w h0 pa 12 = h_r h0 pa 3 := rfl
  rw [e7] at h1 h2 h4 d1 d3
  rw [e12] at z1 z2 z4 d2 d3
  refine r_kh0 M rfl (by omega) (by omega) a.1 r.1 (by omega) (fun x1 q1 x4 q4 x5 q5 => ?_)
  rw [es, Int.toNat_natCast]
  refine hR_cp M h1 b1 h2 b2 (by omega) (by omega) q1 q4 q5 rfl rfl ⟨by decide +kernel, by decide +kernel⟩ rfl (fun h3 H3 M3 e3 => ?_)
  have o3 : ∀ q, q ≠ h_r h0 (h_r h0 pa 2) s → H3 q = H q := fun q hq => by rw [e3, m_uN _ _ _ _ hq]
  refine r_kh20 M3 rfl a.1 a.2.1 (fun x6 q6 => ?_)
  rw [o3 pa kp, es] at q6
  refine k_hs (f := f) M3 a.1 ⟨h1, h2, by omega⟩ (fun q hq => by rw [o3 _ d1]; exact ef q hq) (fun xz qz => ?_)
  refine r_kh32 M3 rfl q6 qz (by omega) (by omega) z1 (by omega) z2 (fun h4' H4 f4 M4 => g h4' H4 M4 (fun q hq hz => ?_) (fun q hq => ?_) ?_)
  · rw [pa_wr] at hq
    rw [f4, m_uN _ _ _ _ hz]
    exact o3 q hq
  · rw [pa_wr, f4, m_uN _ _ _ _ (Ne.symm d2), e3, m_uE, if_pos hq]
    exact ef q hq
  · rw [f4, m_uE, Int.toNat_natCast, o3 _ d2]
end
end
section
-- A NODE PUT, PURE AND THE CLASS'S
theorem ps_mkS0 {S : PSt} {t y l : Int} {f : Nat → Int} (sh : ps_sh S) : ps_sh (ps_le (ps_mk S t y 0 f) l) := fun v hv => by
  have hv : v < ps_n S + 1 := hv
  show (0 ≤ m_u (ps_k S) (ps_n S) 0 v ∧ m_u (ps_k S) (ps_n S) 0 v ≤ 5) ∧ ∀ r : Nat, (r : Int) < m_u (ps_k S) (ps_n S) 0 v → 0 ≤ ps_b (ps_mk S t y 0 f) (6 * v + r) ∧ ps_b (ps_mk S t y 0 f) (6 * v + r) < ((ps_n S + 1 : Nat) : Int) ∧ m_u (ps_k S) (ps_n S) 0 (ps_b (ps_mk S t y 0 f) (6 * v + r)).toNat = (r : Int)
  by_cases e : v = ps_n S
  · subst e
    rw [m_uE]
    exact ⟨⟨Int.le_refl _, by decide⟩, fun r hr => absurd hr (by omega)⟩
  · obtain ⟨a, b⟩ := sh v (by omega)
    rw [m_uN _ _ _ _ e]
    refine ⟨a, fun r hr => ?_⟩
    obtain ⟨b0, b1, b2⟩ := b r hr
    rw [ps_mkB (by omega)]
    exact ⟨b0, by omega, by rw [m_uN _ _ _ _ (by omega)]; exact b2⟩
def pu_h (n : Nat) : Nat → Int := fun r => if r = 0 then (n : Int) else -1
theorem pu_hw (n : Nat) : p_ws (pu_h n) 6 = 1 := by
  rw [p_ws0 (f := pu_h n) (q := 1) (r := 6) (by decide) (fun k h1 _ => if_neg (by omega))]
  show p_ws (pu_h n) 0 + y_tg (pu_h n 0) * 2 ^ 0 = 1
  rw [y_tg1 (x := pu_h n 0) (by show ((n : Nat) : Int) ≠ -1; omega)]
  rfl
theorem pu_hi {S : PSt} {t y l : Int} {f : Nat → Int} : hp_in (ps_le (ps_mk S t y 0 f) l) (pu_h (ps_n S)) := fun r _ => by
  by_cases e : r = 0
  · subst e
    refine Or.inr ⟨Int.natCast_nonneg _, by show (ps_n S : Int) < ((ps_n S + 1 : Nat) : Int); omega, ?_⟩
    show m_u (ps_k S) (ps_n S) 0 (ps_n S : Int).toNat = ((0 : Nat) : Int)
    rw [Int.toNat_natCast, m_uE]
    rfl
  · exact Or.inl (if_neg e)
theorem pm_puI {S : PSt} {f : Nat → Int} {t k : Int} (sh : ps_sh S) (hf : hp_in S f) (w : p_ws f 6 ≠ 63) : ps_sh (pm_pu S f t k).1 ∧ hp_in (pm_pu S f t k).1 (pm_pu S f t k).2 ∧ ps_ex S (pm_pu S f t k).1 ∧ ps_n (pm_pu S f t k).1 ≤ ps_n S + 7 := by
  have L := p_wsL (f := f) 6
  have e6 : (2 : Nat) ^ 6 = 64 := by decide
  rw [e6] at L
  have E : ps_ex S (ps_mk S t k 0 (fun _ => -1)) := ps_exM (S := S) (t := t) (y := k) (k := 0) (l := ps_l S) (f := fun _ => -1)
  obtain ⟨a, b, c, d, -⟩ := pm_mdI (S := ps_mk S t k 0 (fun _ => -1)) (f := f) (s := pu_h (ps_n S)) (ps_mkS0 (t := t) (y := k) (f := fun _ => -1) (l := ps_l S) sh) (hp_inE E hf) (pu_hi (t := t) (y := k) (f := fun _ => -1) (l := ps_l S)) (by rw [pu_hw]; omega)
  exact ⟨a, b, ps_exT E c, by have : ps_n (ps_mk S t k 0 (fun _ => -1)) = ps_n S + 1 := rfl; show ps_n (pm_md (ps_mk S t k 0 (fun _ => -1)) f (pu_h (ps_n S))).1 ≤ _; omega⟩
theorem mk_cs {h h' : MH} {nd : Nat} {S : PSt} {t y : Int} {f : Nat → Int} (T : mk_to h h' nd (128 * y + t) 0) (I : cs_of h (z_i h) nd S) (n1 : ps_n S ≤ 15999) (t0 : 0 ≤ t) (t1 : t ≤ 127) (y0 : 0 ≤ y) (y1 : y ≤ 99) : cs_of h' (z_i h') nd (ps_mk S t y 0 f) := by
  obtain ⟨ok1, F1, t5, tk, tc, tw, tr, tl, tz⟩ := T
  have i1 : z_i h nd 5 = (ps_n S : Int) := I.1
  rw [i1] at t5 tc tw tr
  rw [Int.toNat_natCast] at tw tr
  have i3 := I.2.2.1
  exact cs_mk (l := ps_l S) I n1 t5 ((tk 6 (by decide)).trans I.2.1) i3.1 (by omega) (fun j hj => tc j (by omega)) t0 t1 y0 y1 (Int.le_refl _) (by decide) tw tr (fun r hr => absurd hr (by omega))
section
variable {lv : List (Nat × Value)} {Q : Option Value → MH → Prop} {h0 h : MH} {H : Nat → Nat → Int}
theorem r_pi0 {pa : Nat} {k : Int} (M : RX h0 h H) (e0 : m_lk lv 0 = some (.ref pa)) {lx1 : Int32} (e1 : m_lk lv 1 = some (.int lx1)) (lq1 : lx1.toInt = k)  (hs0 : 16 ≤ pa) (hk0 : (h_k h0 pa).1 = 4)
    (g0 : HJ 50 0 (lv_args 0 [.ref pa]) [] h (fun v h' => HJ 59 4 lv (v.toList ++ []) h' Q))
    : HJ 59 0 lv [] h Q := by
  refine hI_al (k := 0) rfl e0 rfl ?_ -- 0
  refine HJ.call (j := 50) (as := [.ref pa]) (rr := []) (pc' := 4) (m_cR (kc := 3) rfl rfl (by decide +kernel) rfl rfl rfl ⟨rfl, by decide +kernel, by decide +kernel⟩ (by decide) hs0 (by rw [M.2.1]; exact hk0)) (by show 1 ≤ m_lc 50; decide +kernel) ?_ -- 1
  exact g0 
theorem r_pi4 {pa : Nat} {k n : Int} (M : RX h0 h H) (e0 : m_lk lv 0 = some (.ref pa)) {lx1 : Int32} (e1 : m_lk lv 1 = some (.int lx1)) (lq1 : lx1.toInt = k) {sx0 : Int32} (sq0 : sx0.toInt = n)  (hk0 : (h_k h0 pa).1 = 4)
    (g0 : ∀ x2 : Int32, x2.toInt = (-1) → n < 63 → HJ 48 0 (lv_args 0 [.ref (h_r h0 pa 8), .int x2]) [] h (fun v h' => HJ 59 19 lv (v.toList ++ []) h' Q))
    (g1 : ∀ x3 : Int32, x3.toInt = 0 → n ≥ 63 → Q (some (.int x3)) h)
    : HJ 59 4 lv [.int sx0] h Q := by
  refine hM_bp (n := 63) rfl (by decide) rfl (fun x1 q1 => ?_) -- 4
  refine hM_clt (off := 5) (t := 11) rfl sq0 q1 (by decide) rfl (fun c6 => ?_) (fun c6 => ?_) -- 6
  · refine hI_al (k := 0) rfl e0 rfl ?_ -- 11
    refine hR_gr (c := 3) (k := 8) M hk0 rfl rfl rfl rfl ?_ -- 12
    refine hM_ic (n := (-1)) rfl (by decide) rfl (fun x2 q2 => ?_) -- 15
    refine hM_is0 (as := [.ref (h_r h0 pa 8), .int x2]) (r := []) rfl rfl (by decide +kernel) rfl rfl rfl rfl rfl ?_ -- 16
    exact g0 x2 q2 c6
  · refine hM_ic (n := 0) rfl (by decide) rfl (fun x3 q3 => ?_) -- 9
    refine hM_rb rfl rfl q3 (by omega) (by omega) ?_ -- 10
    exact g1 x3 q3 c6
theorem r_pi19 {pa : Nat} {k : Int} (M : RX h0 h H) (e0 : m_lk lv 0 = some (.ref pa)) {lx1 : Int32} (e1 : m_lk lv 1 = some (.int lx1)) (lq1 : lx1.toInt = k)  (hk0 : (h_k h0 pa).1 = 4)
    (g0 : ∀ x1 : Int32, x1.toInt = 0 → ∀ x2 : Int32, x2.toInt = H pa 12 → HJ 60 0 (lv_args 0 [.int x2, .int lx1]) [] h (fun v h' => HJ 59 36 lv (v.toList ++ [.ref (h_r h0 pa 0), .int x1, .ref (h_r h0 pa 8)]) h' Q))
    : HJ 59 19 lv [] h Q := by
  refine hI_al (k := 0) rfl e0 rfl ?_ -- 19
  refine hR_gr (c := 3) (k := 8) M hk0 rfl rfl rfl rfl ?_ -- 20
  refine hM_ic (n := 0) rfl (by decide) rfl (fun x1 q1 => ?_) -- 23
  refine hI_al (k := 0) rfl e0 rfl ?_ -- 24
  refine hR_gr (c := 3) (k := 0) M hk0 rfl rfl rfl rfl ?_ -- 25
  refine hI_al (k := 0) rfl e0 rfl ?_ -- 28
  refine hR_gi (c := 3) (k := 12) M hk0 rfl rfl rfl rfl (fun x2 q2 => ?_) -- 29
  have gb2 : -2147483648 ≤ H pa 12 ∧ H pa 12 ≤ 2147483647 := by rw [← q2]; exact g_iT _
  refine hI_il (k := 1) rfl e1 rfl ?_ -- 32
  refine hM_is0 (as := [.int x2, .int lx1]) (r := [.ref (h_r h0 pa 0), .int x1, .ref (h_r h0 pa 8)]) rfl rfl (by decide +kernel) rfl rfl rfl rfl rfl ?_ -- 33
  exact g0 x1 q1 x2 q2
theorem r_pi36 {pa : Nat} {k z w : Int} (M : RX h0 h H) (e0 : m_lk lv 0 = some (.ref pa)) {lx1 : Int32} (e1 : m_lk lv 1 = some (.int lx1)) (lq1 : lx1.toInt = k) {sx1 : Int32} (sq1 : sx1.toInt = z) {sx3 : Int32} (sq3 : sx3.toInt = w)  (hs0 : 16 ≤ h_r h0 pa 0) (hk0 : (h_k h0 (h_r h0 pa 0)).1 = 3)
    (g0 : ∀ x1 : Int32, x1.toInt = 0 → HJ 61 0 (lv_args 0 [.ref (h_r h0 pa 0), .int sx3, .int x1]) [] h (fun v h' => HJ 59 40 lv (v.toList ++ [.int sx1, .ref (h_r h0 pa 8)]) h' Q))
    : HJ 59 36 lv [.int sx3, .ref (h_r h0 pa 0), .int sx1, .ref (h_r h0 pa 8)] h Q := by
  refine hM_ic (n := 0) rfl (by decide) rfl (fun x1 q1 => ?_) -- 36
  refine HJ.call (j := 61) (as := [.ref (h_r h0 pa 0), .int sx3, .int x1]) (rr := [.int sx1, .ref (h_r h0 pa 8)]) (pc' := 40) (m_cR (kc := 2) rfl rfl (by decide +kernel) rfl rfl rfl ⟨rfl, by decide +kernel, by decide +kernel⟩ (by decide) hs0 (by rw [M.2.1]; exact hk0)) (by show 3 ≤ m_lc 61; decide +kernel) ?_ -- 37
  exact g0 x1 q1
theorem r_pi40 {pa : Nat} {k z n : Int} (M : RX h0 h H) (e0 : m_lk lv 0 = some (.ref pa)) {lx1 : Int32} (e1 : m_lk lv 1 = some (.int lx1)) (lq1 : lx1.toInt = k) {sx1 : Int32} (sq1 : sx1.toInt = z) {sx2 : Int32} (sq2 : sx2.toInt = n) (pz0 : z = 0) (pt0 : 0 ≤ H pa 12) (pt1 : H pa 12 ≤ 1000) (px : pa ≠ h_r h0 pa 8) (ha0 : (h_k h0 (h_r h0 pa 8)).1 = 20) (hl0 : 6 ≤ ((h_k h0 (h_r h0 pa 8)).2 : Int)) (hs0 : 16 ≤ h_r h0 pa 8) (hk0 : (h_k h0 pa).1 = 4) (hs1 : 16 ≤ h_r h0 pa 0) (hk1 : (h_k h0 (h_r h0 pa 0)).1 = 3)
    (g0 : ∀ h1 : MH, ∀ H1 : Nat → Nat → Int, H1 = m_u H (h_r h0 pa 8) (m_u (H (h_r h0 pa 8)) (z).toNat (n)) → ∀ h5 : MH, ∀ H5 : Nat → Nat → Int, H5 = m_u H1 pa (m_u (H1 pa) 12 ((H pa 12) + 1)) → RX h0 h5 H5 → HJ 64 0 (lv_args 0 [.ref (h_r h0 pa 0), .ref (h_r h0 pa 7), .ref (h_r h0 pa 8)]) [] h5 (fun v h' => HJ 59 66 lv (v.toList ++ []) h' Q))
    : HJ 59 40 lv [.int sx2, .int sx1, .ref (h_r h0 pa 8)] h Q := by
  refine hR_is M hs0 ha0 sq1 sq2 (by omega) (by omega) rfl rfl (fun h1 H1 f1 M1 => ?_) -- 40
  refine hI_al (k := 0) rfl e0 rfl ?_ -- 41
  refine hI_dup rfl rfl rfl ?_ -- 42
  refine hR_gi (c := 3) (k := 12) M1 hk0 rfl rfl rfl rfl (fun x2 q2 => ?_) -- 43
  rw [show H1 pa 12 = H pa 12 by rw [f1, m_uN _ _ _ _ px]] at q2
  have gb2 : -2147483648 ≤ H pa 12 ∧ H pa 12 ≤ 2147483647 := by rw [← q2]; exact g_iT _
  refine hM_ic (n := 1) rfl (by decide) rfl (fun x3 q3 => ?_) -- 46
  refine hM_add rfl q2 q3 (by omega) (by omega) rfl (fun x4 q4 => ?_) -- 47
  refine hR_pi (c := 3) (k := 12) M1 hk0 rfl rfl ⟨by decide, by decide +kernel, rfl⟩ q4 rfl (fun h5 H5 f5 M5 => ?_) -- 48
  refine hI_al (k := 0) rfl e0 rfl ?_ -- 51
  refine hR_gr (c := 3) (k := 0) M5 hk0 rfl rfl rfl rfl ?_ -- 52
  refine hI_al (k := 0) rfl e0 rfl ?_ -- 55
  refine hR_gr (c := 3) (k := 7) M5 hk0 rfl rfl rfl rfl ?_ -- 56
  refine hI_al (k := 0) rfl e0 rfl ?_ -- 59
  refine hR_gr (c := 3) (k := 8) M5 hk0 rfl rfl rfl rfl ?_ -- 60
  refine HJ.call (j := 64) (as := [.ref (h_r h0 pa 0), .ref (h_r h0 pa 7), .ref (h_r h0 pa 8)]) (rr := []) (pc' := 66) (m_cR (kc := 2) rfl rfl (by decide +kernel) rfl rfl rfl ⟨rfl, by decide +kernel, by decide +kernel⟩ (by decide) hs1 (by rw [M5.2.1]; exact hk1)) (by show 3 ≤ m_lc 64; decide +kernel) ?_ -- 63
  exact g0 h1 H1 f1 h5 H5 f5 M5
theorem r_pi66 {pa : Nat} (M : RX h0 h H)  
    (g0 : ∀ x1 : Int32, x1.toInt = 1 → Q (some (.int x1)) h)
    : HJ 59 66 lv [] h Q := by
  refine hM_ic (n := 1) rfl (by decide) rfl (fun x1 q1 => ?_) -- 66
  refine hM_rb rfl rfl q1 (by omega) (by omega) ?_ -- 67
  exact g0 x1 q1
theorem k_put {pa : Nat} {S : PSt} {f : Nat → Int} {tt k : Int} {xk : Int32} (ok : pa_ok h pa) (I : cs_of h (z_i h) (h_r h pa 0) S) (ef : hp6 (z_i h (h_r h pa 7)) f) (sh : ps_sh S) (hf : hp_in S f) (cap : ps_n S + 7 ≤ 16000) (et : z_i h pa 12 = tt) (t0 : 0 ≤ tt) (t1 : tt ≤ 126) (qk : xk.toInt = k) (k0 : 0 ≤ k) (k1 : k ≤ 99) (g : ∀ (x : Int32) (h' : MH), (x.toInt = 0 ∧ p_ws f 6 = 63 ∧ h' = h) ∨ (x.toInt = 1 ∧ p_ws f 6 ≠ 63 ∧ cs_of h' (z_i h') (h_r h pa 0) (pm_pu S f tt k).1 ∧ hp6 (z_i h' (h_r h pa 7)) (pm_pu S f tt k).2 ∧ z_i h' pa 12 = tt + 1 ∧ nl_ok h' (h_r h pa 0) ∧ FX (h_r h pa 0) (py_Y h pa) h h' ∧ ∀ q, q ≠ 12 → z_i h' pa q = z_i h pa q) → Q (some (.int x)) h') : HJ 59 0 (lv_args 0 [.ref pa, .int xk]) [] h Q := by
  have nx := pa_nx ok
  have c := ok.2.2.2.2.2.2.2
  have b := ok.2.2.2.2.2.2.1
  have a7 := pa_ap ok (i := 7) (by decide) (by decide)
  have a8 := pa_ap ok (i := 8) (by decide) (by decide)
  have e7 : pa_w h pa 7 = h_r h pa 7 := rfl
  have e8 : pa_w h pa 8 = h_r h pa 8 := rfl
  have d78 : h_r h pa 8 ≠ h_r h pa 7 := c 8 7 (by decide) (by decide) (by decide)
  rw [e7] at a7
  rw [e8] at a8
  have p7 := (pa_ne ok (i := 7) (by decide)).1
  have p8 := (pa_ne ok (i := 8) (by decide)).1
  rw [e7] at p7
  rw [e8] at p8
  have pn := (pa_ne ok (i := 7) (by decide)).2.2.2
  have L := p_wsL (f := f) 6
  have e6 : (2 : Nat) ^ 6 = 64 := by decide
  rw [e6] at L
  have l8 : (h_k h (h_r h pa 8)).2 ≤ 1000000 := (b 8 (by decide)).2.2.2.2
  have M := RX.start h
  refine r_pi0 M rfl rfl qk ok.1.2.1 ok.1.1 (k_hs M ok.1.1 a7.1 ef (fun xn qn => ?_))
  refine r_pi4 M rfl rfl qk qn ok.1.1 (fun x2 q2 cn => ?_) (fun x3 q3 cn => g x3 h (Or.inl ⟨q3, by omega, rfl⟩))
  refine k_fill M a8.1.1 a8.1.2.1 l8 q2 (fun h1 H1 M1 p1 p2 => ?_)
  have r1 : h_r h1 = h_r h := M1.2.2.1.1
  have n8 := nl_ap ok.2.1 a8.1.1 a8.2.2
  have ok1 : nl_ok h1 (h_r h pa 0) := nl_RX ok.2.1 M1 (by rw [p1 _ (Ne.symm n8.1)]; rfl)
  have I1 : cs_of h1 (z_i h1) (h_r h pa 0) S := cs_mv I (by rw [M1.zi, p1 _ (Ne.symm n8.1)]; rfl) (by rw [M1.zi, p1 _ (Ne.symm n8.1)]; rfl) (fun q _ => by rw [r1, M1.zi, p1 _ (Ne.symm n8.2.1)]; rfl)
  have F1 : FX (h_r h pa 0) (py_Y h pa) h h1 := FX.ofRX M1 (by rw [p1 _ (Ne.symm n8.1)]; rfl) (fun a ha j => by rw [p1 a (fun z => ha (Or.inr (Or.inr (Or.inr (Or.inr (Or.inr ⟨8, by decide, z⟩))))))]; rfl)
  refine r_pi19 M1 rfl rfl qk ok.1.1 (fun x4 q4 x5 q5 => ?_)
  have q5 : x5.toInt = tt := by rw [q5, p1 pa p8]; exact et
  refine k_weigh q5 qk t0 (by omega) k0 k1 (fun xw qw => ?_)
  refine r_pi36 M1 rfl rfl qk q4 qw nx.1.1.2.1 nx.1.1.1 (fun x6 q6 => ?_)
  refine k_make ok1 (by rw [I1.1]; omega) qw q6 (fun xm h2 qm T => ?_)
  have I2 := mk_cs (f := fun _ => -1) T I1 (by omega) t0 (by omega) k0 k1
  obtain ⟨ok2, F2', -⟩ := T
  have F2 : FX (h_r h pa 0) (py_Y h pa) h1 h2 := F2'.mono (fun _ z => z.elim)
  have F02 := F1.trans F2
  have qm : xm.toInt = (ps_n S : Int) := qm.trans I1.1
  obtain ⟨pa2, re2, rw2⟩ := pa_FX ok ok2 F02
  have a7' := ap_FX a7 F02
  have a8' := ap_FX a8 F02
  have z2 : ∀ q, z_i h2 pa q = z_i h pa q := fun q => by
    have u := (F2'.kp (q := pa) (by have := F1.1; have := ok.1.2.2; omega) pn.1 (fun z => ?_) (fun z => ?_) (fun z => z)).2.1 q
    · rw [u, M1.zi, p1 pa p8]
      rfl
    · have u1 := ok1.2.1.1
      rw [← z, M1.2.1, ok.1.1] at u1
      omega
    · have u1 := ok1.2.2.1.1
      rw [← z, M1.2.1, ok.1.1] at u1
      omega
  have s2 : ∀ q : Nat, q < 6 → z_i h2 (h_r h pa 8) q = -1 := fun q hq => by
    rw [ap_kp ok1 (ap_FX a8 F1) (fun z => z) F2' q, M1.zi]
    exact p2 q (by have := a8.1.2.2; omega)
  have f2 : hp6 (z_i h2 (h_r h pa 7)) f := fun q hq => by
    rw [ap_kp ok1 (ap_FX a7 F1) (fun z => z) F2' q, M1.zi, p1 _ (Ne.symm d78)]
    exact ef q hq
  have t2 : z_i h2 pa 12 = tt := (z2 12).trans et
  show HJ 59 40 (lv_args 0 [.ref pa, .int xk]) [.int xm, .int x4, .ref (h_r h pa 8)] h2 Q
  rw [← re2 8]
  refine r_pi40 (RX.start h2) rfl rfl qk q4 qm rfl (by show 0 ≤ z_i h2 pa 12; omega) (by show z_i h2 pa 12 ≤ 1000; omega) (by rw [re2]; exact p8) (by rw [re2]; exact a8'.1.1) (by rw [re2]; exact a8'.1.2.2) (by rw [re2]; exact a8'.1.2.1) pa2.1.1 (by rw [re2]; exact ok2.1.2.1) (by rw [re2]; exact ok2.1.1) (fun h3 H3 f3 h5 H5 f5 M5 => ?_)
  rw [re2] at f3 ⊢
  rw [re2, re2]
  have f3 : H3 = m_u (z_i h2) (h_r h pa 8) (m_u (z_i h2 (h_r h pa 8)) 0 (ps_n S : Int)) := by rw [f3]; rfl
  have o5 : ∀ q, q ≠ h_r h pa 8 → q ≠ pa → H5 q = z_i h2 q := fun q h1 h2 => by rw [f5, m_uN _ _ _ _ h2, f3, m_uN _ _ _ _ h1]
  have r5 : h_r h5 = h_r h2 := M5.2.2.1.1
  have n8' := nl_ap ok2 a8'.1.1 a8'.2.2
  have c2 : h_r h2 (h_r h pa 0) 0 ≠ pa := fun z => by
    have := ok2.2.1.1
    rw [z, pa2.1.1] at this
    omega
  have ok5 : nl_ok h5 (h_r h pa 0) := nl_RX ok2 M5 (by rw [o5 _ (Ne.symm n8'.1) (Ne.symm pn.1)])
  have I5 : cs_of h5 (z_i h5) (h_r h pa 0) (ps_mk S tt k 0 (fun _ => -1)) := cs_mv I2 (by rw [M5.zi, o5 _ (Ne.symm n8'.1) (Ne.symm pn.1)]) (by rw [M5.zi, o5 _ (Ne.symm n8'.1) (Ne.symm pn.1)]) (fun q _ => by rw [r5, M5.zi, o5 _ (Ne.symm n8'.2.1) c2])
  have F5 : FX (h_r h pa 0) (py_Y h pa) h2 h5 := FX.ofRX M5 (by rw [o5 _ (Ne.symm n8'.1) (Ne.symm pn.1)]) (fun a ha j => by rw [o5 a (fun z => ha (Or.inr (Or.inr (Or.inr (Or.inr (Or.inr ⟨8, by decide, z⟩)))))) (fun z => ha (Or.inr (Or.inr (Or.inr (Or.inl z)))))])
  have F05 := F02.trans F5
  have s5 : hp6 (z_i h5 (h_r h pa 8)) (pu_h (ps_n S)) := fun q hq => by
    rw [M5.zi, f5, m_uN _ _ _ _ (Ne.symm p8), f3, m_uE]
    by_cases z : q = 0
    · rw [z, m_uE]
      rfl
    · rw [m_uN _ _ _ _ z, s2 q hq]
      exact (if_neg z).symm
  have f5' : hp6 (z_i h5 (h_r h pa 7)) f := fun q hq => by
    rw [M5.zi, o5 _ (Ne.symm d78) (Ne.symm p7)]
    exact f2 q hq
  have E : ps_ex S (ps_mk S tt k 0 (fun _ => -1)) := ps_exM (S := S) (t := tt) (y := k) (k := 0) (l := ps_l S) (f := fun _ => -1)
  have w5 : ∀ q, z_i h5 pa q = if q = 12 then tt + 1 else z_i h pa q := fun q => by
    rw [M5.zi, f5, m_uE]
    by_cases z : q = 12
    · rw [if_pos z, z, m_uE]
      show z_i h2 pa 12 + 1 = _
      rw [t2]
    · rw [if_neg z, m_uN _ _ _ _ z, f3, m_uN _ _ _ _ p8]
      exact z2 q
  refine k_meld ok5 (ap_FX a7 F05) (ap_FX a8 F05) d78 I5 f5' s5 (ps_mkS0 (t := tt) (y := k) (f := fun _ => -1) (l := ps_l S) sh) (hp_inE E hf) (pu_hi (t := tt) (y := k) (f := fun _ => -1) (l := ps_l S)) (by rw [pu_hw]; omega) (by show ps_n S + 1 + 6 ≤ 16000; omega) (fun h6 ok6 I6 e6_ F6 => ?_)
  refine r_pi66 (pa := pa) (RX.start h6) (fun x7 q7 => g x7 h6 (Or.inr ⟨q7, by omega, I6, e6_, ?_, ok6, F05.trans (F6.mono (fun a z => Or.inr (Or.inr ⟨7, by decide, z⟩))), fun q hq => ?_⟩))
  · rw [(F6.kp (q := pa) (by have := F05.1; have := ok.1.2.2; omega) pn.1 (fun z => by rw [r5] at z; exact c2 z.symm) (fun z => by have u := ok5.2.2.1.1; rw [← z, M5.2.1, pa2.1.1] at u; omega) p7).2.1 12, w5, if_pos rfl]
  · rw [(F6.kp (q := pa) (by have := F05.1; have := ok.1.2.2; omega) pn.1 (fun z => by rw [r5] at z; exact c2 z.symm) (fun z => by have u := ok5.2.2.1.1; rw [← z, M5.2.1, pa2.1.1] at u; omega) p7).2.1 q, w5, if_neg hq]
-- VERSIONS MELDED
def pr_of (h : MH) (pa : Nat) (Y : RYt) : Prop := (z_i h pa 11 + 1 = (ry_v Y : Int) ∧ 1 ≤ ry_v Y ∧ ry_v Y ≤ 41) ∧ ∀ v : Nat, v < ry_v Y → hp6 (z_i h (pa_w h pa (18 + v))) (ry_h Y v) ∧ z_i h (h_r h pa 3) v = (p_ws (ry_h Y v) 6 : Int)
theorem ry_hv {Y : RYt} {v : Int} (h : 0 ≤ v) : ry_h Y v = ry_h Y (v.toNat : Int) := by
  rw [show ((v.toNat : Nat) : Int) = v by omega]
theorem r_mw0 {pa : Nat} {v : Int} (M : RX h0 h H) (e0 : m_lk lv 0 = some (.ref pa)) {lx1 : Int32} (e1 : m_lk lv 1 = some (.int lx1)) (lq1 : lx1.toInt = v)  (hs0 : 16 ≤ pa) (hk0 : (h_k h0 pa).1 = 4)
    (g0 : HJ 57 0 (lv_args 0 [.ref pa, .int lx1]) [] h (fun v h' => HJ 70 5 lv (v.toList ++ []) h' Q))
    : HJ 70 0 lv [] h Q := by
  refine hI_al (k := 0) rfl e0 rfl ?_ -- 0
  refine hI_il (k := 1) rfl e1 rfl ?_ -- 1
  refine HJ.call (j := 57) (as := [.ref pa, .int lx1]) (rr := []) (pc' := 5) (m_cR (kc := 3) rfl rfl (by decide +kernel) rfl rfl rfl ⟨rfl, by decide +kernel, by decide +kernel⟩ (by decide) hs0 (by rw [M.2.1]; exact hk0)) (by show 2 ≤ m_lc 57; decide +kernel) ?_ -- 2
  exact g0 
theorem r_mw5 {pa : Nat} {v z : Int} (M : RX h0 h H) (e0 : m_lk lv 0 = some (.ref pa)) {lx1 : Int32} (e1 : m_lk lv 1 = some (.int lx1)) (lq1 : lx1.toInt = v) {sx0 : Int32} (sq0 : sx0.toInt = z)  (hs0 : 16 ≤ pa) (hk0 : (h_k h0 pa).1 = 4)
    (g0 : ∀ x1 : Int32, x1.toInt = 0 → z = 0 → Q (some (.int x1)) h)
    (g1 : z ≠ 0 → HJ 50 0 (lv_args 0 [.ref pa]) [] h (fun v h' => HJ 70 12 lv (v.toList ++ []) h' Q))
    : HJ 70 5 lv [.int sx0] h Q := by
  refine hM_zeq (off := 19) (t := 24) rfl sq0 (by decide) rfl (fun c5 => ?_) (fun c5 => ?_) -- 5
  · refine hM_ic (n := 0) rfl (by decide) rfl (fun x1 q1 => ?_) -- 24
    refine hM_rb rfl rfl q1 (by omega) (by omega) ?_ -- 25
    exact g0 x1 q1 c5
  · refine hI_al (k := 0) rfl e0 rfl ?_ -- 8
    refine HJ.call (j := 50) (as := [.ref pa]) (rr := []) (pc' := 12) (m_cR (kc := 3) rfl rfl (by decide +kernel) rfl rfl rfl ⟨rfl, by decide +kernel, by decide +kernel⟩ (by decide) hs0 (by rw [M.2.1]; exact hk0)) (by show 1 ≤ m_lc 50; decide +kernel) ?_ -- 9
    exact g1 c5
theorem r_mw12 {pa : Nat} {v n : Int} (M : RX h0 h H) (e0 : m_lk lv 0 = some (.ref pa)) {lx1 : Int32} (e1 : m_lk lv 1 = some (.int lx1)) (lq1 : lx1.toInt = v) {sx0 : Int32} (sq0 : sx0.toInt = n) (pv0 : 0 ≤ v) (pv1 : v ≤ 40) (pn0 : 0 ≤ n) (pn1 : n ≤ 63) (pz0 : 0 ≤ H (h_r h0 pa 3) (v).toNat) (pz1 : H (h_r h0 pa 3) (v).toNat ≤ 63) (hk0 : (h_k h0 pa).1 = 4) (ha0 : (h_k h0 (h_r h0 pa 3)).1 = 20) (hl0 : 41 ≤ ((h_k h0 (h_r h0 pa 3)).2 : Int)) (hs0 : 16 ≤ pa)
    (g0 : n + (H (h_r h0 pa 3) (v).toNat) ≤ 63 → HJ 58 0 (lv_args 0 [.ref pa, .int lx1, .ref (h_r h0 pa 8)]) [] h (fun v h' => HJ 70 35 lv (v.toList ++ []) h' Q))
    (g1 : ∀ x4 : Int32, x4.toInt = 0 → n + (H (h_r h0 pa 3) (v).toNat) > 63 → Q (some (.int x4)) h)
    : HJ 70 12 lv [.int sx0] h Q := by
  refine hI_al (k := 0) rfl e0 rfl ?_ -- 12
  refine hR_gr (c := 3) (k := 3) M hk0 rfl rfl rfl rfl ?_ -- 13
  refine hI_il (k := 1) rfl e1 rfl ?_ -- 16
  refine hR_ia M ha0 lq1 (by omega) (by omega) rfl rfl (fun x1 q1 => ?_) -- 17
  have gb1 : -2147483648 ≤ H (h_r h0 pa 3) (v).toNat ∧ H (h_r h0 pa 3) (v).toNat ≤ 2147483647 := by rw [← q1]; exact g_iT _
  refine hM_add rfl sq0 q1 (by omega) (by omega) rfl (fun x2 q2 => ?_) -- 18
  refine hM_bp (n := 63) rfl (by decide) rfl (fun x3 q3 => ?_) -- 19
  refine hM_cle (off := 5) (t := 26) rfl q2 q3 (by decide) rfl (fun c21 => ?_) (fun c21 => ?_) -- 21
  · refine hI_al (k := 0) rfl e0 rfl ?_ -- 26
    refine hI_il (k := 1) rfl e1 rfl ?_ -- 27
    refine hI_al (k := 0) rfl e0 rfl ?_ -- 28
    refine hR_gr (c := 3) (k := 8) M hk0 rfl rfl rfl rfl ?_ -- 29
    refine HJ.call (j := 58) (as := [.ref pa, .int lx1, .ref (h_r h0 pa 8)]) (rr := []) (pc' := 35) (m_cR (kc := 3) rfl rfl (by decide +kernel) rfl rfl rfl ⟨rfl, by decide +kernel, by decide +kernel⟩ (by decide) hs0 (by rw [M.2.1]; exact hk0)) (by show 3 ≤ m_lc 58; decide +kernel) ?_ -- 32
    exact g0 c21
  · refine hM_ic (n := 0) rfl (by decide) rfl (fun x4 q4 => ?_) -- 24
    refine hM_rb rfl rfl q4 (by omega) (by omega) ?_ -- 25
    exact g1 x4 q4 c21
theorem r_mw35 {pa : Nat} {v : Int} (M : RX h0 h H) (e0 : m_lk lv 0 = some (.ref pa)) {lx1 : Int32} (e1 : m_lk lv 1 = some (.int lx1)) (lq1 : lx1.toInt = v)  (hk0 : (h_k h0 pa).1 = 4) (hs0 : 16 ≤ h_r h0 pa 0) (hk1 : (h_k h0 (h_r h0 pa 0)).1 = 3)
    (g0 : HJ 64 0 (lv_args 0 [.ref (h_r h0 pa 0), .ref (h_r h0 pa 7), .ref (h_r h0 pa 8)]) [] h (fun v h' => HJ 70 50 lv (v.toList ++ []) h' Q))
    : HJ 70 35 lv [] h Q := by
  refine hI_al (k := 0) rfl e0 rfl ?_ -- 35
  refine hR_gr (c := 3) (k := 0) M hk0 rfl rfl rfl rfl ?_ -- 36
  refine hI_al (k := 0) rfl e0 rfl ?_ -- 39
  refine hR_gr (c := 3) (k := 7) M hk0 rfl rfl rfl rfl ?_ -- 40
  refine hI_al (k := 0) rfl e0 rfl ?_ -- 43
  refine hR_gr (c := 3) (k := 8) M hk0 rfl rfl rfl rfl ?_ -- 44
  refine HJ.call (j := 64) (as := [.ref (h_r h0 pa 0), .ref (h_r h0 pa 7), .ref (h_r h0 pa 8)]) (rr := []) (pc' := 50) (m_cR (kc := 2) rfl rfl (by decide +kernel) rfl rfl rfl ⟨rfl, by decide +kernel, by decide +kernel⟩ (by decide) hs0 (by rw [M.2.1]; exact hk1)) (by show 3 ≤ m_lc 64; decide +kernel) ?_ -- 47
  exact g0 
theorem r_mw50 {pa : Nat} (M : RX h0 h H)  
    (g0 : ∀ x1 : Int32, x1.toInt = 1 → Q (some (.int x1)) h)
    : HJ 70 50 lv [] h Q := by
  refine hM_ic (n := 1) rfl (by decide) rfl (fun x1 q1 => ?_) -- 50
  refine hM_rb rfl rfl q1 (by omega) (by omega) ?_ -- 51
  exact g0 x1 q1
theorem k_meldW {pa : Nat} {S : PSt} {f : Nat → Int} {Y : RYt} {v : Int} {xv : Int32} (ok : pa_ok h pa) (I : cs_of h (z_i h) (h_r h pa 0) S) (P : pr_of h pa Y) (ef : hp6 (z_i h (h_r h pa 7)) f) (sh : ps_sh S) (hf : hp_in S f) (hs : ∀ u : Nat, u < ry_v Y → hp_in S (ry_h Y u)) (cap : ps_n S + 6 ≤ 16000) (qv : xv.toInt = v) (g : ∀ (x : Int32) (h' : MH), (x.toInt = 0 ∧ ¬ (ry_is Y v = true ∧ p_ws f 6 + p_ws (ry_h Y v) 6 ≤ 63) ∧ h' = h) ∨ (x.toInt = 1 ∧ (ry_is Y v = true ∧ p_ws f 6 + p_ws (ry_h Y v) 6 ≤ 63) ∧ cs_of h' (z_i h') (h_r h pa 0) (pm_md S f (ry_h Y v)).1 ∧ hp6 (z_i h' (h_r h pa 7)) (pm_md S f (ry_h Y v)).2 ∧ nl_ok h' (h_r h pa 0) ∧ FX (h_r h pa 0) (py_Y h pa) h h' ∧ ∀ q, z_i h' pa q = z_i h pa q) → Q (some (.int x)) h') : HJ 70 0 (lv_args 0 [.ref pa, .int xv]) [] h Q := by
  have nx := pa_nx ok
  have c := ok.2.2.2.2.2.2.2
  have b := ok.2.2.2.2.2.2.1
  have a7 := pa_ap ok (i := 7) (by decide) (by decide)
  have a8 := pa_ap ok (i := 8) (by decide) (by decide)
  have e7 : pa_w h pa 7 = h_r h pa 7 := rfl
  have e8 : pa_w h pa 8 = h_r h pa 8 := rfl
  have d78 : h_r h pa 8 ≠ h_r h pa 7 := c 8 7 (by decide) (by decide) (by decide)
  rw [e7] at a7
  rw [e8] at a8
  have p7 := (pa_ne ok (i := 7) (by decide)).1
  have p8 := (pa_ne ok (i := 8) (by decide)).1
  rw [e7] at p7
  rw [e8] at p8
  have pn := (pa_ne ok (i := 7) (by decide)).2.2.2
  have L := p_wsL (f := f) 6
  have e6 : (2 : Nat) ^ 6 = 64 := by decide
  rw [e6] at L
  obtain ⟨⟨P1, P2, P3⟩, P4⟩ := P
  obtain ⟨s1, s2, -, s4, -⟩ := b 12 (by decide)
  have n12 : pa_n 12 = 41 := rfl
  have e12 : pa_w h pa 12 = h_r h pa 3 := rfl
  rw [e12] at s1 s2 s4
  have M := RX.start h
  have P1' : (h_i h pa 11).toInt + 1 = (ry_v Y : Int) := P1
  refine r_mw0 M rfl rfl qv ok.1.2.1 ok.1.1 (k_has M ok.1.1 qv (fun xz hz => ?_))
  refine r_mw5 M rfl rfl qv rfl ok.1.2.1 ok.1.1 (fun x1 q1 c1 => g x1 h (Or.inl ⟨q1, fun z => ?_, rfl⟩)) (fun c1 => ?_)
  · have y := ry_isV z.1
    rcases hz with w | w
    · omega
    · exact w.2 ⟨y.1, by omega⟩
  · have hz : 0 ≤ v ∧ v ≤ (h_i h pa 11).toInt := by
      rcases hz with w | w
      · exact w.2
      · exact absurd w.1 c1
    have is : ry_is Y v = true := ry_isT ⟨hz.1, by omega⟩
    obtain ⟨r1, r2⟩ := P4 v.toNat (by omega)
    have Lv := p_wsL (f := ry_h Y v) 6
    rw [e6] at Lv
    rw [← ry_hv hz.1] at r1 r2
    refine k_hs M ok.1.1 a7.1 ef (fun xn qn => ?_)
    have r2' : (h_i h (h_r h pa 3) v.toNat).toInt = (p_ws (ry_h Y v) 6 : Int) := r2
    refine r_mw12 M rfl rfl qv qn hz.1 (by omega) (by omega) (by omega) (by omega) (by omega) ok.1.1 s1 (by omega) ok.1.2.1 (fun cc => ?_) (fun x4 q4 cc => g x4 h (Or.inl ⟨q4, fun z => ?_, rfl⟩))
    · refine k_load M ok qv hz.1 hz.2 (by omega) a8.1 (fun h1 H1 M1 f1 => ?_)
      have o1 : ∀ q, q ≠ h_r h pa 8 → H1 q = z_i h q := fun q hq => by rw [f1, m_uN _ _ _ _ hq]; rfl
      have rr1 : h_r h1 = h_r h := M1.2.2.1.1
      have n8 := nl_ap ok.2.1 a8.1.1 a8.2.2
      have ok1 : nl_ok h1 (h_r h pa 0) := nl_RX ok.2.1 M1 (by rw [o1 _ (Ne.symm n8.1)])
      have I1 : cs_of h1 (z_i h1) (h_r h pa 0) S := cs_mv I (by rw [M1.zi, o1 _ (Ne.symm n8.1)]) (by rw [M1.zi, o1 _ (Ne.symm n8.1)]) (fun q _ => by rw [rr1, M1.zi, o1 _ (Ne.symm n8.2.1)])
      have F1 : FX (h_r h pa 0) (py_Y h pa) h h1 := FX.ofRX M1 (by rw [o1 _ (Ne.symm n8.1)]) (fun a ha j => by rw [o1 a (fun z => ha (Or.inr (Or.inr (Or.inr (Or.inr (Or.inr ⟨8, by decide, z⟩))))))])
      have s1' : hp6 (z_i h1 (h_r h pa 8)) (ry_h Y v) := fun q hq => by
        rw [M1.zi, f1, m_uE, if_pos hq]
        exact r1 q hq
      have f1' : hp6 (z_i h1 (h_r h pa 7)) f := fun q hq => by
        rw [M1.zi, o1 _ (Ne.symm d78)]
        exact ef q hq
      have hv := hs v.toNat (by omega)
      rw [← ry_hv hz.1] at hv
      refine r_mw35 M1 rfl rfl qv ok.1.1 nx.1.1.2.1 nx.1.1.1 ?_
      refine k_meld ok1 (ap_FX a7 F1) (ap_FX a8 F1) d78 I1 f1' s1' sh hf hv (by omega) cap (fun h6 ok6 I6 e6_ F6 => ?_)
      refine r_mw50 (pa := pa) (RX.start h6) (fun x7 q7 => g x7 h6 (Or.inr ⟨q7, ⟨is, by omega⟩, I6, e6_, ok6, F1.trans (F6.mono (fun a z => Or.inr (Or.inr ⟨7, by decide, z⟩))), fun q => ?_⟩))
      have c2 : h_r h1 (h_r h pa 0) 0 ≠ pa := fun z => by
        have := ok1.2.1.1
        rw [z, M1.2.1, ok.1.1] at this
        omega
      rw [(F6.kp (q := pa) (by have := F1.1; have := ok.1.2.2; omega) pn.1 (fun z => c2 z.symm) (fun z => by have u := ok1.2.2.1.1; rw [← z, M1.2.1, ok.1.1] at u; omega) p7).2.1 q, M1.zi, o1 pa p8]
    · have := z.2
      omega
end
end
section
-- ALL BELOW A KEY CUT OFF
theorem pm_ctI {k : Int} : ∀ (m : Nat) (S : PSt) (f : Nat → Int), ps_sh S → hp_in S f → ps_sh (pm_ct k m (S, f)).1 ∧ hp_in (pm_ct k m (S, f)).1 (pm_ct k m (S, f)).2 ∧ ps_ex S (pm_ct k m (S, f)).1 ∧ ps_n (pm_ct k m (S, f)).1 ≤ ps_n S + 6 * m
  | 0, S, f, sh, hf => ⟨sh, hf, ps_ex0, Nat.le_refl _⟩
  | m + 1, S, f, sh, hf => by
    have L := p_wsL (f := f) 6
    have e6 : (2 : Nat) ^ 6 = 64 := by decide
    rw [e6] at L
    by_cases c : pm_le S f 6 = -1 ∨ k ≤ ps_y S (f (pm_le S f 6).toNat).toNat
    · rw [pm_ct1 (X := (S, f)) c]
      exact ⟨sh, hf, ps_ex0, by show ps_n S ≤ _; omega⟩
    · rw [pm_ct2 (X := (S, f)) c]
      obtain ⟨a1, a2, a3, a4, -⟩ := pm_tkI sh hf (by omega) (fun z => c (Or.inl z))
      obtain ⟨b1, b2, b3, b4⟩ := pm_ctI m (pm_tk (S, f)).1 (pm_tk (S, f)).2 a1 a2
      exact ⟨b1, b2, ps_exT a3 b3, by show ps_n (pm_ct k m ((pm_tk (S, f)).1, (pm_tk (S, f)).2)).1 ≤ _; omega⟩
theorem pm_ctE {k : Int} {S : PSt} {f : Nat → Int} (e : pm_le S f 6 = -1) : ∀ m, pm_ct k m (S, f) = (S, f)
  | 0 => rfl
  | m + 1 => pm_ct1 (X := (S, f)) (Or.inl e)
theorem pm_ctN {k : Int} {S : PSt} {f : Nat → Int} {m : Nat} (c : (if pm_le S f 6 = -1 then -1 else ps_y S (f (pm_le S f 6).toNat).toNat) < k) : pm_ct k (m + 1) (S, f) = pm_ct k m (pm_tk (S, f)) := by
  by_cases e : pm_le S f 6 = -1
  · rw [pm_ctE e, pm_tk0 e, pm_ctE e]
  · rw [if_neg e] at c
    exact pm_ct2 (X := (S, f)) (fun z => by
      rcases z with z | z
      · exact e z
      · have z : k ≤ ps_y S (f (pm_le S f 6).toNat).toNat := z
        omega)
theorem pm_ctS {k : Int} {S : PSt} {f : Nat → Int} {m : Nat} (c : ¬ (if pm_le S f 6 = -1 then -1 else ps_y S (f (pm_le S f 6).toNat).toNat) < k) : pm_ct k (m + 1) (S, f) = (S, f) := by
  by_cases e : pm_le S f 6 = -1
  · exact pm_ctE e (m + 1)
  · rw [if_neg e] at c
    exact pm_ct1 (X := (S, f)) (Or.inr (by show k ≤ ps_y S (f (pm_le S f 6).toNat).toNat; omega))
-- WHAT AN ACT LEAVES, PURE
theorem ry_doI {Y : RYt} {w v a b : Int} {X : PSt × (Nat → Int) × Int} (sh : ps_sh (ry_s Y)) (hs : ∀ u : Nat, u < ry_v Y → hp_in (ry_s Y) (ry_h Y u)) (e : ry_do Y w v a b = some X) : (ps_sh X.1 ∧ hp_in X.1 X.2.1) ∧ (ps_ex (ry_s Y) X.1 ∧ ps_n X.1 ≤ ps_n (ry_s Y) + 378) ∧ (X.2.2 = ry_t Y ∨ X.2.2 = ry_t Y + 1) := by
  have sh0 : ps_sh (ps_le (ry_s Y) 0) := sh
  have E0 : ps_ex (ry_s Y) (ps_le (ry_s Y) 0) := ⟨Nat.le_refl _, fun _ _ => ⟨rfl, rfl, rfl, fun _ _ => rfl⟩⟩
  have n0 : ps_n (ps_le (ry_s Y) 0) = ps_n (ry_s Y) := rfl
  by_cases w0 : w = 0
  · rw [ry_do0 w0] at e
    cases e
    exact ⟨⟨sh0, fun _ _ => Or.inl rfl⟩, ⟨E0, by show ps_n (ry_s Y) ≤ _; omega⟩, Or.inl rfl⟩
  · cases is : ry_is Y v with
    | false =>
      rw [ry_doF w0 is] at e
      cases e
    | true =>
      have iv := ry_isV is
      have hv : hp_in (ps_le (ry_s Y) 0) (ry_h Y v) := by
        rw [ry_hv iv.1]
        exact hs v.toNat (by omega)
      have L := p_wsL (f := ry_h Y v) 6
      have e6 : (2 : Nat) ^ 6 = 64 := by decide
      rw [e6] at L
      by_cases w2 : w = 2
      · rw [ry_do2 w2 is] at e
        by_cases c : ry_is Y a = true ∧ p_ws (ry_h Y v) 6 + p_ws (ry_h Y a) 6 ≤ 63
        · rw [if_pos c] at e
          cases e
          have ia := ry_isV c.1
          have ha : hp_in (ps_le (ry_s Y) 0) (ry_h Y a) := by
            rw [ry_hv ia.1]
            exact hs a.toNat (by omega)
          obtain ⟨b1, b2, b3, b4, -⟩ := pm_mdI sh0 hv ha c.2
          exact ⟨⟨b1, b2⟩, ⟨ps_exT E0 b3, by show ps_n (pm_md (ps_le (ry_s Y) 0) (ry_h Y v) (ry_h Y a)).1 ≤ _; omega⟩, Or.inl rfl⟩
        · rw [if_neg c] at e
          cases e
      · by_cases w1 : w = 1
        · rw [ry_do1 w1 is] at e
          by_cases c : p_ws (ry_h Y v) 6 = 63
          · rw [if_pos c] at e
            cases e
          · rw [if_neg c] at e
            cases e
            obtain ⟨b1, b2, b3, b4⟩ := pm_puI (t := ry_t Y) (k := a) sh0 hv c
            exact ⟨⟨b1, b2⟩, ⟨ps_exT E0 b3, by show ps_n (pm_pu (ps_le (ry_s Y) 0) (ry_h Y v) (ry_t Y) a).1 ≤ _; omega⟩, Or.inr rfl⟩
        · by_cases w3 : w = 3
          · rw [ry_do3 w3 is] at e
            by_cases c : pm_le (ps_le (ry_s Y) 0) (ry_h Y v) 6 = -1
            · rw [if_pos c] at e
              cases e
            · rw [if_neg c] at e
              cases e
              obtain ⟨b1, b2, b3, b4, -⟩ := pm_tkI sh0 hv (by omega) c
              exact ⟨⟨b1, b2⟩, ⟨ps_exT E0 b3, by show ps_n (pm_tk (ps_le (ry_s Y) 0, ry_h Y v)).1 ≤ _; omega⟩, Or.inl rfl⟩
          · by_cases w4 : w = 4
            · rw [ry_do4 w4 is] at e
              cases hl : lw_do (ps_le (ry_s Y) 0) (ry_h Y v) a b with
              | none =>
                rw [hl] at e
                cases e
              | some Z =>
                rw [hl] at e
                cases e
                obtain ⟨b1, b2, b3, b4⟩ := lw_doI sh0 hv hl
                exact ⟨⟨b1, b2⟩, ⟨ps_exT E0 b3, by show ps_n Z.1 ≤ _; omega⟩, Or.inl rfl⟩
            · rw [ry_do5 w0 w1 w2 w3 w4 is] at e
              cases e
              obtain ⟨b1, b2, b3, b4⟩ := pm_ctI (k := a) 63 _ _ sh0 hv
              exact ⟨⟨b1, b2⟩, ⟨ps_exT E0 b3, by show ps_n (pm_ct a 63 (ps_le (ry_s Y) 0, ry_h Y v)).1 ≤ _; omega⟩, Or.inl rfl⟩
-- AN ACT DONE, THE CLASS'S
section
variable {lv : List (Nat × Value)} {Q : Option Value → MH → Prop} {h0 h : MH} {H : Nat → Nat → Int}
theorem r_pf0 {pa : Nat} {w v a b : Int} (M : RX h0 h H) (e0 : m_lk lv 0 = some (.ref pa)) {lx1 : Int32} (e1 : m_lk lv 1 = some (.int lx1)) (lq1 : lx1.toInt = w) {lx2 : Int32} (e2 : m_lk lv 2 = some (.int lx2)) (lq2 : lx2.toInt = v) {lx3 : Int32} (e3 : m_lk lv 3 = some (.int lx3)) (lq3 : lx3.toInt = a) {lx4 : Int32} (e4 : m_lk lv 4 = some (.int lx4)) (lq4 : lx4.toInt = b)  (hs0 : 16 ≤ pa) (hk0 : (h_k h0 pa).1 = 4)
    (g0 : w ≠ 0 → HJ 57 0 (lv_args 0 [.ref pa, .int lx2]) [] h (fun v h' => HJ 56 19 lv (v.toList ++ []) h' Q))
    (g1 : ∀ x1 : Int32, x1.toInt = (-1) → w = 0 → HJ 48 0 (lv_args 0 [.ref (h_r h0 pa 7), .int x1]) [] h (fun v h' => HJ 56 12 lv (v.toList ++ []) h' Q))
    : HJ 56 0 lv [] h Q := by
  refine hI_il (k := 1) rfl e1 rfl ?_ -- 0
  refine hM_zne (off := 13) (t := 14) rfl lq1 (by decide) rfl (fun c1 => ?_) (fun c1 => ?_) -- 1
  · refine hI_al (k := 0) rfl e0 rfl ?_ -- 14
    refine hI_il (k := 2) rfl e2 rfl ?_ -- 15
    refine HJ.call (j := 57) (as := [.ref pa, .int lx2]) (rr := []) (pc' := 19) (m_cR (kc := 3) rfl rfl (by decide +kernel) rfl rfl rfl ⟨rfl, by decide +kernel, by decide +kernel⟩ (by decide) hs0 (by rw [M.2.1]; exact hk0)) (by show 2 ≤ m_lc 57; decide +kernel) ?_ -- 16
    exact g0 c1
  · refine hI_al (k := 0) rfl e0 rfl ?_ -- 4
    refine hR_gr (c := 3) (k := 7) M hk0 rfl rfl rfl rfl ?_ -- 5
    refine hM_ic (n := (-1)) rfl (by decide) rfl (fun x1 q1 => ?_) -- 8
    refine hM_is0 (as := [.ref (h_r h0 pa 7), .int x1]) (r := []) rfl rfl (by decide +kernel) rfl rfl rfl rfl rfl ?_ -- 9
    exact g1 x1 q1 c1
theorem r_pf12 {pa : Nat} (M : RX h0 h H)  
    (g0 : ∀ x1 : Int32, x1.toInt = 1 → Q (some (.int x1)) h)
    : HJ 56 12 lv [] h Q := by
  refine hM_ic (n := 1) rfl (by decide) rfl (fun x1 q1 => ?_) -- 12
  refine hM_rb rfl rfl q1 (by omega) (by omega) ?_ -- 13
  exact g0 x1 q1
theorem r_pf19 {pa : Nat} {w v a b z : Int} (M : RX h0 h H) (e0 : m_lk lv 0 = some (.ref pa)) {lx1 : Int32} (e1 : m_lk lv 1 = some (.int lx1)) (lq1 : lx1.toInt = w) {lx2 : Int32} (e2 : m_lk lv 2 = some (.int lx2)) (lq2 : lx2.toInt = v) {lx3 : Int32} (e3 : m_lk lv 3 = some (.int lx3)) (lq3 : lx3.toInt = a) {lx4 : Int32} (e4 : m_lk lv 4 = some (.int lx4)) (lq4 : lx4.toInt = b) {sx0 : Int32} (sq0 : sx0.toInt = z)  (hk0 : (h_k h0 pa).1 = 4) (hs0 : 16 ≤ pa)
    (g0 : z ≠ 0 → HJ 58 0 (lv_args 0 [.ref pa, .int lx2, .ref (h_r h0 pa 7)]) [] h (fun v h' => HJ 56 33 lv (v.toList ++ []) h' Q))
    (g1 : ∀ x1 : Int32, x1.toInt = 0 → z = 0 → Q (some (.int x1)) h)
    : HJ 56 19 lv [.int sx0] h Q := by
  refine hM_zne (off := 5) (t := 24) rfl sq0 (by decide) rfl (fun c19 => ?_) (fun c19 => ?_) -- 19
  · refine hI_al (k := 0) rfl e0 rfl ?_ -- 24
    refine hI_il (k := 2) rfl e2 rfl ?_ -- 25
    refine hI_al (k := 0) rfl e0 rfl ?_ -- 26
    refine hR_gr (c := 3) (k := 7) M hk0 rfl rfl rfl rfl ?_ -- 27
    refine HJ.call (j := 58) (as := [.ref pa, .int lx2, .ref (h_r h0 pa 7)]) (rr := []) (pc' := 33) (m_cR (kc := 3) rfl rfl (by decide +kernel) rfl rfl rfl ⟨rfl, by decide +kernel, by decide +kernel⟩ (by decide) hs0 (by rw [M.2.1]; exact hk0)) (by show 3 ≤ m_lc 58; decide +kernel) ?_ -- 30
    exact g0 c19
  · refine hM_ic (n := 0) rfl (by decide) rfl (fun x1 q1 => ?_) -- 22
    refine hM_rb rfl rfl q1 (by omega) (by omega) ?_ -- 23
    exact g1 x1 q1 c19
theorem r_pf33 {pa : Nat} {w v a b : Int} (M : RX h0 h H) (e0 : m_lk lv 0 = some (.ref pa)) {lx1 : Int32} (e1 : m_lk lv 1 = some (.int lx1)) (lq1 : lx1.toInt = w) {lx2 : Int32} (e2 : m_lk lv 2 = some (.int lx2)) (lq2 : lx2.toInt = v) {lx3 : Int32} (e3 : m_lk lv 3 = some (.int lx3)) (lq3 : lx3.toInt = a) {lx4 : Int32} (e4 : m_lk lv 4 = some (.int lx4)) (lq4 : lx4.toInt = b) 
    (g0 : HJ 56 34 lv [.int lx1] h Q)
    : HJ 56 33 lv [] h Q := by
  refine hI_il (k := 1) rfl e1 rfl ?_ -- 33
  exact g0 
theorem r_pf68 {pa : Nat} {w v a b : Int} (M : RX h0 h H) (e0 : m_lk lv 0 = some (.ref pa)) {lx1 : Int32} (e1 : m_lk lv 1 = some (.int lx1)) (lq1 : lx1.toInt = w) {lx2 : Int32} (e2 : m_lk lv 2 = some (.int lx2)) (lq2 : lx2.toInt = v) {lx3 : Int32} (e3 : m_lk lv 3 = some (.int lx3)) (lq3 : lx3.toInt = a) {lx4 : Int32} (e4 : m_lk lv 4 = some (.int lx4)) (lq4 : lx4.toInt = b)  (hs0 : 16 ≤ pa) (hk0 : (h_k h0 pa).1 = 4)
    (g0 : HJ 59 0 (lv_args 0 [.ref pa, .int lx3]) [] h (fun v h' => HJ 56 73 lv (v.toList ++ []) h' Q))
    : HJ 56 68 lv [] h Q := by
  refine hI_al (k := 0) rfl e0 rfl ?_ -- 68
  refine hI_il (k := 3) rfl e3 rfl ?_ -- 69
  refine HJ.call (j := 59) (as := [.ref pa, .int lx3]) (rr := []) (pc' := 73) (m_cR (kc := 3) rfl rfl (by decide +kernel) rfl rfl rfl ⟨rfl, by decide +kernel, by decide +kernel⟩ (by decide) hs0 (by rw [M.2.1]; exact hk0)) (by show 2 ≤ m_lc 59; decide +kernel) ?_ -- 70
  exact g0 
theorem r_pf74 {pa : Nat} {w v a b : Int} (M : RX h0 h H) (e0 : m_lk lv 0 = some (.ref pa)) {lx1 : Int32} (e1 : m_lk lv 1 = some (.int lx1)) (lq1 : lx1.toInt = w) {lx2 : Int32} (e2 : m_lk lv 2 = some (.int lx2)) (lq2 : lx2.toInt = v) {lx3 : Int32} (e3 : m_lk lv 3 = some (.int lx3)) (lq3 : lx3.toInt = a) {lx4 : Int32} (e4 : m_lk lv 4 = some (.int lx4)) (lq4 : lx4.toInt = b)  (hs0 : 16 ≤ pa) (hk0 : (h_k h0 pa).1 = 4)
    (g0 : HJ 70 0 (lv_args 0 [.ref pa, .int lx3]) [] h (fun v h' => HJ 56 79 lv (v.toList ++ []) h' Q))
    : HJ 56 74 lv [] h Q := by
  refine hI_al (k := 0) rfl e0 rfl ?_ -- 74
  refine hI_il (k := 3) rfl e3 rfl ?_ -- 75
  refine HJ.call (j := 70) (as := [.ref pa, .int lx3]) (rr := []) (pc' := 79) (m_cR (kc := 3) rfl rfl (by decide +kernel) rfl rfl rfl ⟨rfl, by decide +kernel, by decide +kernel⟩ (by decide) hs0 (by rw [M.2.1]; exact hk0)) (by show 2 ≤ m_lc 70; decide +kernel) ?_ -- 76
  exact g0 
theorem r_pf80 {pa : Nat} {w v a b : Int} (M : RX h0 h H) (e0 : m_lk lv 0 = some (.ref pa)) {lx1 : Int32} (e1 : m_lk lv 1 = some (.int lx1)) (lq1 : lx1.toInt = w) {lx2 : Int32} (e2 : m_lk lv 2 = some (.int lx2)) (lq2 : lx2.toInt = v) {lx3 : Int32} (e3 : m_lk lv 3 = some (.int lx3)) (lq3 : lx3.toInt = a) {lx4 : Int32} (e4 : m_lk lv 4 = some (.int lx4)) (lq4 : lx4.toInt = b)  (hk0 : (h_k h0 pa).1 = 4) (hs0 : 16 ≤ h_r h0 pa 0) (hk1 : (h_k h0 (h_r h0 pa 0)).1 = 3)
    (g0 : HJ 71 0 (lv_args 0 [.ref (h_r h0 pa 0), .ref (h_r h0 pa 7)]) [] h (fun v h' => HJ 56 91 lv (v.toList ++ []) h' Q))
    : HJ 56 80 lv [] h Q := by
  refine hI_al (k := 0) rfl e0 rfl ?_ -- 80
  refine hR_gr (c := 3) (k := 0) M hk0 rfl rfl rfl rfl ?_ -- 81
  refine hI_al (k := 0) rfl e0 rfl ?_ -- 84
  refine hR_gr (c := 3) (k := 7) M hk0 rfl rfl rfl rfl ?_ -- 85
  refine HJ.call (j := 71) (as := [.ref (h_r h0 pa 0), .ref (h_r h0 pa 7)]) (rr := []) (pc' := 91) (m_cR (kc := 2) rfl rfl (by decide +kernel) rfl rfl rfl ⟨rfl, by decide +kernel, by decide +kernel⟩ (by decide) hs0 (by rw [M.2.1]; exact hk1)) (by show 2 ≤ m_lc 71; decide +kernel) ?_ -- 88
  exact g0 
theorem r_pf92 {pa : Nat} {w v a b : Int} (M : RX h0 h H) (e0 : m_lk lv 0 = some (.ref pa)) {lx1 : Int32} (e1 : m_lk lv 1 = some (.int lx1)) (lq1 : lx1.toInt = w) {lx2 : Int32} (e2 : m_lk lv 2 = some (.int lx2)) (lq2 : lx2.toInt = v) {lx3 : Int32} (e3 : m_lk lv 3 = some (.int lx3)) (lq3 : lx3.toInt = a) {lx4 : Int32} (e4 : m_lk lv 4 = some (.int lx4)) (lq4 : lx4.toInt = b)  (hk0 : (h_k h0 pa).1 = 4) (hs0 : 16 ≤ h_r h0 pa 0) (hk1 : (h_k h0 (h_r h0 pa 0)).1 = 3)
    (g0 : HJ 73 0 (lv_args 0 [.ref (h_r h0 pa 0), .ref (h_r h0 pa 7), .int lx3, .int lx4]) [] h (fun v h' => HJ 56 106 lv (v.toList ++ []) h' Q))
    : HJ 56 92 lv [] h Q := by
  refine hI_al (k := 0) rfl e0 rfl ?_ -- 92
  refine hR_gr (c := 3) (k := 0) M hk0 rfl rfl rfl rfl ?_ -- 93
  refine hI_al (k := 0) rfl e0 rfl ?_ -- 96
  refine hR_gr (c := 3) (k := 7) M hk0 rfl rfl rfl rfl ?_ -- 97
  refine hI_il (k := 3) rfl e3 rfl ?_ -- 100
  refine hI_il2 (k := 4) rfl e4 rfl ?_ -- 101
  refine HJ.call (j := 73) (as := [.ref (h_r h0 pa 0), .ref (h_r h0 pa 7), .int lx3, .int lx4]) (rr := []) (pc' := 106) (m_cR (kc := 2) rfl rfl (by decide +kernel) rfl rfl rfl ⟨rfl, by decide +kernel, by decide +kernel⟩ (by decide) hs0 (by rw [M.2.1]; exact hk1)) (by show 4 ≤ m_lc 73; decide +kernel) ?_ -- 103
  exact g0 
theorem r_pf73 {z : Int} (M : RX h0 h H) {sx0 : Int32} (sq0 : sx0.toInt = z) (pz0 : 0 ≤ z) (pz1 : z ≤ 1)
    (g0 : Q (some (.int sx0)) h)
    : HJ 56 73 lv [.int sx0] h Q := by
  refine hM_rb rfl rfl sq0 (by omega) (by omega) ?_ -- 73
  exact g0 
theorem r_pf79 {z : Int} (M : RX h0 h H) {sx0 : Int32} (sq0 : sx0.toInt = z) (pz0 : 0 ≤ z) (pz1 : z ≤ 1)
    (g0 : Q (some (.int sx0)) h)
    : HJ 56 79 lv [.int sx0] h Q := by
  refine hM_rb rfl rfl sq0 (by omega) (by omega) ?_ -- 79
  exact g0 
theorem r_pf91 {z : Int} (M : RX h0 h H) {sx0 : Int32} (sq0 : sx0.toInt = z) (pz0 : 0 ≤ z) (pz1 : z ≤ 1)
    (g0 : Q (some (.int sx0)) h)
    : HJ 56 91 lv [.int sx0] h Q := by
  refine hM_rb rfl rfl sq0 (by omega) (by omega) ?_ -- 91
  exact g0 
theorem r_pf106 {z : Int} (M : RX h0 h H) {sx0 : Int32} (sq0 : sx0.toInt = z) (pz0 : 0 ≤ z) (pz1 : z ≤ 1)
    (g0 : Q (some (.int sx0)) h)
    : HJ 56 106 lv [.int sx0] h Q := by
  refine hM_rb rfl rfl sq0 (by omega) (by omega) ?_ -- 106
  exact g0 
theorem r_pf107 {pa : Nat} {w v a b : Int} (M : RX h0 h H) (e0 : m_lk lv 0 = some (.ref pa)) {lx1 : Int32} (e1 : m_lk lv 1 = some (.int lx1)) (lq1 : lx1.toInt = w) {lx2 : Int32} (e2 : m_lk lv 2 = some (.int lx2)) (lq2 : lx2.toInt = v) {lx3 : Int32} (e3 : m_lk lv 3 = some (.int lx3)) (lq3 : lx3.toInt = a) {lx4 : Int32} (e4 : m_lk lv 4 = some (.int lx4)) (lq4 : lx4.toInt = b) 
    (g0 : ∀ x1 : Int32, x1.toInt = 0 → ∀ lv2 : List (Nat × Value), m_lk lv2 0 = some (.ref pa) → m_lk lv2 1 = some (.int lx1) → m_lk lv2 2 = some (.int lx2) → m_lk lv2 3 = some (.int lx3) → m_lk lv2 4 = some (.int lx4) → m_lk lv2 5 = some (.int x1) → HJ 56 110 lv2 [] h Q)
    : HJ 56 107 lv [] h Q := by
  refine hM_ic (n := 0) rfl (by decide) rfl (fun x1 q1 => ?_) -- 107
  refine hM_si2 (k := 5) rfl (by decide +kernel) rfl (fun lv2 e2_5 u2 => ?_) -- 108
  have e2_0 := u2 0 _ (by decide) (Or.inl rfl) e0
  have e2_1 := u2 1 _ (by decide) (Or.inl rfl) e1
  have e2_2 := u2 2 _ (by decide) (Or.inl rfl) e2
  have e2_3 := u2 3 _ (by decide) (Or.inl rfl) e3
  have e2_4 := u2 4 _ (by decide) (Or.inl rfl) e4
  exact g0 x1 q1 lv2 e2_0 e2_1 e2_2 e2_3 e2_4 e2_5
theorem r_pf110 {pa : Nat} {w v a b i : Int} (M : RX h0 h H) (e0 : m_lk lv 0 = some (.ref pa)) {lx1 : Int32} (e1 : m_lk lv 1 = some (.int lx1)) (lq1 : lx1.toInt = w) {lx2 : Int32} (e2 : m_lk lv 2 = some (.int lx2)) (lq2 : lx2.toInt = v) {lx3 : Int32} (e3 : m_lk lv 3 = some (.int lx3)) (lq3 : lx3.toInt = a) {lx4 : Int32} (e4 : m_lk lv 4 = some (.int lx4)) (lq4 : lx4.toInt = b) {lx5 : Int32} (e5 : m_lk lv 5 = some (.int lx5)) (lq5 : lx5.toInt = i)  (hk0 : (h_k h0 pa).1 = 4) (hs0 : 16 ≤ h_r h0 pa 0) (hk1 : (h_k h0 (h_r h0 pa 0)).1 = 3)
    (g0 : ∀ x2 : Int32, x2.toInt = 1 → i ≥ 63 → Q (some (.int x2)) h)
    (g1 : i < 63 → HJ 80 0 (lv_args 0 [.ref (h_r h0 pa 0), .ref (h_r h0 pa 7)]) [] h (fun v h' => HJ 56 128 lv (v.toList ++ []) h' Q))
    : HJ 56 110 lv [] h Q := by
  refine hI_il2 (k := 5) rfl e5 rfl ?_ -- 110
  refine hM_bp (n := 63) rfl (by decide) rfl (fun x1 q1 => ?_) -- 112
  refine hM_cge (off := 36) (t := 150) rfl lq5 q1 (by decide) rfl (fun c114 => ?_) (fun c114 => ?_) -- 114
  · refine hM_ic (n := 1) rfl (by decide) rfl (fun x2 q2 => ?_) -- 150
    refine hM_rb rfl rfl q2 (by omega) (by omega) ?_ -- 151
    exact g0 x2 q2 c114
  · refine hI_al (k := 0) rfl e0 rfl ?_ -- 117
    refine hR_gr (c := 3) (k := 0) M hk0 rfl rfl rfl rfl ?_ -- 118
    refine hI_al (k := 0) rfl e0 rfl ?_ -- 121
    refine hR_gr (c := 3) (k := 7) M hk0 rfl rfl rfl rfl ?_ -- 122
    refine HJ.call (j := 80) (as := [.ref (h_r h0 pa 0), .ref (h_r h0 pa 7)]) (rr := []) (pc' := 128) (m_cR (kc := 2) rfl rfl (by decide +kernel) rfl rfl rfl ⟨rfl, by decide +kernel, by decide +kernel⟩ (by decide) hs0 (by rw [M.2.1]; exact hk1)) (by show 2 ≤ m_lc 80; decide +kernel) ?_ -- 125
    exact g1 c114
theorem r_pf128 {pa : Nat} {w v a b i y : Int} (M : RX h0 h H) (e0 : m_lk lv 0 = some (.ref pa)) {lx1 : Int32} (e1 : m_lk lv 1 = some (.int lx1)) (lq1 : lx1.toInt = w) {lx2 : Int32} (e2 : m_lk lv 2 = some (.int lx2)) (lq2 : lx2.toInt = v) {lx3 : Int32} (e3 : m_lk lv 3 = some (.int lx3)) (lq3 : lx3.toInt = a) {lx4 : Int32} (e4 : m_lk lv 4 = some (.int lx4)) (lq4 : lx4.toInt = b) {lx5 : Int32} (e5 : m_lk lv 5 = some (.int lx5)) (lq5 : lx5.toInt = i) {sx0 : Int32} (sq0 : sx0.toInt = y)  (hk0 : (h_k h0 pa).1 = 4) (hs0 : 16 ≤ h_r h0 pa 0) (hk1 : (h_k h0 (h_r h0 pa 0)).1 = 3)
    (g0 : ∀ x1 : Int32, x1.toInt = 1 → y ≥ a → Q (some (.int x1)) h)
    (g1 : y < a → HJ 71 0 (lv_args 0 [.ref (h_r h0 pa 0), .ref (h_r h0 pa 7)]) [] h (fun v h' => HJ 56 143 lv (v.toList ++ []) h' Q))
    : HJ 56 128 lv [.int sx0] h Q := by
  refine hI_il (k := 3) rfl e3 rfl ?_ -- 128
  refine hM_cge (off := 21) (t := 150) rfl sq0 lq3 (by decide) rfl (fun c129 => ?_) (fun c129 => ?_) -- 129
  · refine hM_ic (n := 1) rfl (by decide) rfl (fun x1 q1 => ?_) -- 150
    refine hM_rb rfl rfl q1 (by omega) (by omega) ?_ -- 151
    exact g0 x1 q1 c129
  · refine hI_al (k := 0) rfl e0 rfl ?_ -- 132
    refine hR_gr (c := 3) (k := 0) M hk0 rfl rfl rfl rfl ?_ -- 133
    refine hI_al (k := 0) rfl e0 rfl ?_ -- 136
    refine hR_gr (c := 3) (k := 7) M hk0 rfl rfl rfl rfl ?_ -- 137
    refine HJ.call (j := 71) (as := [.ref (h_r h0 pa 0), .ref (h_r h0 pa 7)]) (rr := []) (pc' := 143) (m_cR (kc := 2) rfl rfl (by decide +kernel) rfl rfl rfl ⟨rfl, by decide +kernel, by decide +kernel⟩ (by decide) hs0 (by rw [M.2.1]; exact hk1)) (by show 2 ≤ m_lc 71; decide +kernel) ?_ -- 140
    exact g1 c129
theorem r_pf143 {pa : Nat} {w v a b i y : Int} (M : RX h0 h H) (e0 : m_lk lv 0 = some (.ref pa)) {lx1 : Int32} (e1 : m_lk lv 1 = some (.int lx1)) (lq1 : lx1.toInt = w) {lx2 : Int32} (e2 : m_lk lv 2 = some (.int lx2)) (lq2 : lx2.toInt = v) {lx3 : Int32} (e3 : m_lk lv 3 = some (.int lx3)) (lq3 : lx3.toInt = a) {lx4 : Int32} (e4 : m_lk lv 4 = some (.int lx4)) (lq4 : lx4.toInt = b) {lx5 : Int32} (e5 : m_lk lv 5 = some (.int lx5)) (lq5 : lx5.toInt = i) {sx0 : Int32} (sq0 : sx0.toInt = y) (pi0 : 0 ≤ i) (pi1 : i ≤ 62)
    (g0 : ∀ x1 : Int32, x1.toInt = i + 1 → ∀ lv1 : List (Nat × Value), m_lk lv1 0 = some (.ref pa) → m_lk lv1 1 = some (.int lx1) → m_lk lv1 2 = some (.int lx2) → m_lk lv1 3 = some (.int lx3) → m_lk lv1 4 = some (.int lx4) → m_lk lv1 5 = some (.int x1) → HJ 56 110 lv1 [] h Q)
    : HJ 56 143 lv [.int sx0] h Q := by
  refine hI_pop rfl rfl rfl ?_ -- 143
  refine hM_inc (k := 5) (z := 1) rfl e5 lq5 (by decide) (by omega) (by omega) (by decide +kernel) rfl (fun lv1 x1 q1 e1_5 u1 => ?_) -- 144
  have e1_0 := u1 0 _ (by decide) (Or.inl rfl) e0
  have e1_1 := u1 1 _ (by decide) (Or.inl rfl) e1
  have e1_2 := u1 2 _ (by decide) (Or.inl rfl) e2
  have e1_3 := u1 3 _ (by decide) (Or.inl rfl) e3
  have e1_4 := u1 4 _ (by decide) (Or.inl rfl) e4
  refine hI_go (pc' := 110) (off := (-37)) rfl (by decide) ?_ -- 147
  exact g0 x1 q1 lv1 e1_0 e1_1 e1_2 e1_3 e1_4 e1_5
theorem l_ctR {pa : Nat} {w v a b : Int} {xw xv xa xb : Int32} {R : PSt × (Nat → Int)} {n0 : Nat} (ok0 : pa_ok h0 pa) (n1 : n0 + 378 ≤ 16000) (qw : xw.toInt = w) (qv : xv.toInt = v) (qa : xa.toInt = a) (qb : xb.toInt = b) (g : ∀ (x : Int32) (h' : MH), x.toInt = 1 → nl_ok h' (h_r h0 pa 0) → cs_of h' (z_i h') (h_r h0 pa 0) R.1 → hp6 (z_i h' (h_r h0 pa 7)) R.2 → FX (h_r h0 pa 0) (py_Y h0 pa) h0 h' → (∀ q, z_i h' pa q = z_i h0 pa q) → Q (some (.int x)) h') : ∀ (e i : Nat) (S : PSt) (f : Nat → Int) (lv : List (Nat × Value)) (h : MH) (xi : Int32), i + e = 63 → xi.toInt = (i : Int) → nl_ok h (h_r h0 pa 0) → cs_of h (z_i h) (h_r h0 pa 0) S → hp6 (z_i h (h_r h0 pa 7)) f → ps_sh S → hp_in S f → ps_n S ≤ n0 + 6 * i → pm_ct a e (S, f) = R → FX (h_r h0 pa 0) (py_Y h0 pa) h0 h → (∀ q, z_i h pa q = z_i h0 pa q) → m_lk lv 0 = some (.ref pa) → m_lk lv 1 = some (.int xw) → m_lk lv 2 = some (.int xv) → m_lk lv 3 = some (.int xa) → m_lk lv 4 = some (.int xb) → m_lk lv 5 = some (.int xi) → HJ 56 110 lv [] h Q := by
  have c := ok0.2.2.2.2.2.2.2
  have e7 : pa_w h0 pa 7 = h_r h0 pa 7 := rfl
  have e9 : pa_w h0 pa 9 = h_r h0 (h_r h0 pa 0) 2 := rfl
  have d97 : h_r h0 (h_r h0 pa 0) 2 ≠ h_r h0 pa 7 := c 9 7 (by decide) (by decide) (by decide)
  intro e
  induction e with
  | zero =>
    intro i S f lv h xi he qi ok I ef sh hf nb er F zp e0 e1 e2 e3 e4 e5
    obtain ⟨okp, re, rw_⟩ := pa_FX ok0 ok F
    have er : (S, f) = R := er
    rw [← er] at g
    exact r_pf110 (RX.start h) e0 e1 qw e2 qv e3 qa e4 qb e5 qi okp.1.1 (by rw [re]; exact ok.1.2.1) (by rw [re]; exact ok.1.1) (fun x2 q2 _ => g x2 h q2 ok I ef F zp) (fun c => absurd c (by omega))
  | succ e ih =>
    intro i S f lv h xi he qi ok I ef sh hf nb er F zp e0 e1 e2 e3 e4 e5
    obtain ⟨okp, re, rw_⟩ := pa_FX ok0 ok F
    have a7 := ap_FX (pa_ap ok0 (i := 7) (by decide) (by decide)) F
    have nx := nx_FX (pa_nx ok0) ok F
    obtain ⟨r2, -, -, -⟩ := nx_r (pa_nx ok0) F
    rw [e7] at a7
    have L := p_wsL (f := f) 6
    have e6 : (2 : Nat) ^ 6 = 64 := by decide
    rw [e6] at L
    refine r_pf110 (RX.start h) e0 e1 qw e2 qv e3 qa e4 qb e5 qi okp.1.1 (by rw [re]; exact ok.1.2.1) (by rw [re]; exact ok.1.1) (fun _ _ c => absurd c (by omega)) (fun _ => ?_)
    rw [re, re]
    refine k_lkey (RX.start h) (nl_nd ok I.1) I a7.1 ef hf (fun xy qy => ?_)
    refine r_pf128 (RX.start h) e0 e1 qw e2 qv e3 qa e4 qb e5 qi qy okp.1.1 (by rw [re]; exact ok.1.2.1) (by rw [re]; exact ok.1.1) (fun x1 q1 cc => ?_) (fun cc => ?_)
    · rw [pm_ctS (by omega)] at er
      rw [← er] at g
      exact g x1 h q1 ok I ef F zp
    · rw [re, re]
      rw [pm_ctN cc] at er
      refine k_take ok a7 (by rw [r2]; exact ap_FX (pa_ap ok0 (i := 9) (by decide) (by decide)) F) nx.2.1.2 (by rw [r2]; exact d97) I ef sh hf (by omega) (by omega) (fun xt h2 hx ok2 I2 e2' F2 => ?_)
      have sh2 : ps_sh (pm_tk (S, f)).1 ∧ hp_in (pm_tk (S, f)).1 (pm_tk (S, f)).2 ∧ ps_n (pm_tk (S, f)).1 ≤ ps_n S + 6 := by
        by_cases z : pm_le S f 6 = -1
        · rw [pm_tk0 z]
          exact ⟨sh, hf, Nat.le_add_right _ _⟩
        · obtain ⟨b1, b2, -, b4, -⟩ := pm_tkI sh hf (by omega) z
          exact ⟨b1, b2, b4⟩
      have F2' : FX (h_r h0 pa 0) (py_Y h0 pa) h h2 := F2.mono (fun q z => by
        rcases z with z | z
        · exact Or.inr (Or.inr ⟨7, by decide, z⟩)
        · rw [r2] at z
          exact Or.inr (Or.inr ⟨9, by decide, z⟩))
      have zp2 : ∀ q, z_i h2 pa q = z_i h0 pa q := fun q => by
        have n7 := pa_ne okp (i := 7) (by decide)
        have n9 := pa_ne okp (i := 9) (by decide)
        have n11 := pa_ne okp (i := 11) (by decide)
        rw [rw_ 7 (by decide) (by decide)] at n7
        rw [rw_ 9 (by decide) (by decide)] at n9
        have k11 : pa_w h pa 11 = h_r h (h_r h0 pa 0) 0 := by
          show h_r h (h_r h pa 0) 0 = _
          rw [re]
        rw [k11, re] at n11
        rw [re] at n7
        rw [(F2.kp (q := pa) okp.1.2.2 n7.2.2.2.1 n11.1 (by have := n11.2.2.2.2.2; exact this) (fun z => by
          rcases z with z | z
          · exact n7.1 z
          · rw [r2] at z
            exact n9.1 z)).2.1 q]
        exact zp q
      refine r_pf143 (RX.start h2) e0 e1 qw e2 qv e3 qa e4 qb e5 qi rfl (by omega) (by omega) (fun x1 q1 lv1 b0 b1 b2 b3 b4 b5 => ?_)
      exact ih (i + 1) (pm_tk (S, f)).1 (pm_tk (S, f)).2 lv1 h2 x1 (by omega) (by omega) ok2 I2 e2' sh2.1 sh2.2.1 (by omega) er (F.trans F2') zp2 b0 b1 b2 b3 b4 b5
def pf_R (h' : MH) (nd hp pa : Nat) (Y : RYt) (w v a b : Int) (x : Int) : Prop := (x = 0 ∧ ry_do Y w v a b = none ∧ cs_of h' (z_i h') nd (ps_le (ry_s Y) 0) ∧ z_i h' pa 12 = ry_t Y) ∨ (x = 1 ∧ ∃ X, ry_do Y w v a b = some X ∧ cs_of h' (z_i h') nd X.1 ∧ hp6 (z_i h' hp) X.2.1 ∧ z_i h' pa 12 = X.2.2)
theorem k_perform {pa : Nat} {Y : RYt} {w v a b : Int} {xw xv xa xb : Int32} (ok : pa_ok h pa) (I : cs_of h (z_i h) (h_r h pa 0) (ps_le (ry_s Y) 0)) (P : pr_of h pa Y) (sh : ps_sh (ry_s Y)) (hs : ∀ u : Nat, u < ry_v Y → hp_in (ry_s Y) (ry_h Y u)) (cap : ps_n (ry_s Y) + 378 ≤ 16000) (et : z_i h pa 12 = ry_t Y) (t0 : 0 ≤ ry_t Y) (t1 : ry_t Y ≤ 126) (w0 : 0 ≤ w) (w5 : w ≤ 5) (av : av_1 w a b) (qw : xw.toInt = w) (qv : xv.toInt = v) (qa : xa.toInt = a) (qb : xb.toInt = b) (g : ∀ (x : Int32) (h' : MH), pf_R h' (h_r h pa 0) (h_r h pa 7) pa Y w v a b x.toInt → nl_ok h' (h_r h pa 0) → FX (h_r h pa 0) (py_Y h pa) h h' → (∀ q, q ≠ 12 → z_i h' pa q = z_i h pa q) → Q (some (.int x)) h') : HJ 56 0 (lv_args 0 [.ref pa, .int xw, .int xv, .int xa, .int xb]) [] h Q := by
  have nx := pa_nx ok
  have a7 := pa_ap ok (i := 7) (by decide) (by decide)
  have h7 := pa_hx ok (i := 7) (by decide) (by decide) (by decide) (by decide) (by decide)
  have e7 : pa_w h pa 7 = h_r h pa 7 := rfl
  rw [e7] at a7 h7
  have l7 : (h_k h (h_r h pa 7)).2 ≤ 1000000 := (ok.2.2.2.2.2.2.1 7 (by decide)).2.2.2.2
  have p7 := (pa_ne ok (i := 7) (by decide)).1
  rw [e7] at p7
  have pn := (pa_ne ok (i := 7) (by decide)).2.2.2
  have M := RX.start h
  have n7 := nl_ap ok.2.1 a7.1.1 a7.2.2
  have sh0 : ps_sh (ps_le (ry_s Y) 0) := sh
  obtain ⟨⟨P1, P2, P3⟩, P4⟩ := P
  have P1' : (h_i h pa 11).toInt + 1 = (ry_v Y : Int) := P1
  -- only the heap set anew
  have one : ∀ {h1 : MH} {H1 : Nat → Nat → Int}, RX h h1 H1 → (∀ q, q ≠ h_r h pa 7 → H1 q = z_i h q) → nl_ok h1 (h_r h pa 0) ∧ cs_of h1 (z_i h1) (h_r h pa 0) (ps_le (ry_s Y) 0) ∧ FX (h_r h pa 0) (py_Y h pa) h h1 ∧ ∀ q, z_i h1 pa q = z_i h pa q := fun {h1 H1} M1 o1 => by
    have rr1 : h_r h1 = h_r h := M1.2.2.1.1
    exact ⟨nl_RX ok.2.1 M1 (by rw [o1 _ (Ne.symm n7.1)]), cs_mv I (by rw [M1.zi, o1 _ (Ne.symm n7.1)]) (by rw [M1.zi, o1 _ (Ne.symm n7.1)]) (fun q _ => by rw [rr1, M1.zi, o1 _ (Ne.symm n7.2.1)]), FX.ofRX M1 (by rw [o1 _ (Ne.symm n7.1)]) (fun a ha j => by rw [o1 a (fun z => ha (Or.inr (Or.inr (Or.inr (Or.inr (Or.inr ⟨7, by decide, z⟩))))))]), fun q => by rw [M1.zi, o1 pa p7]⟩
  refine r_pf0 M rfl rfl qw rfl qv rfl qa rfl qb ok.1.2.1 ok.1.1 (fun cw => ?_) (fun x1 q1 cw => ?_)
  · refine k_has M ok.1.1 qv (fun xz hz => ?_)
    refine r_pf19 M rfl rfl qw rfl qv rfl qa rfl qb rfl ok.1.1 ok.1.2.1 (fun cz => ?_) (fun x1 q1 cz => ?_)
    · have hz : 0 ≤ v ∧ v ≤ (h_i h pa 11).toInt := by
        rcases hz with w | w
        · exact w.2
        · exact absurd w.1 cz
      have is : ry_is Y v = true := ry_isT ⟨hz.1, by omega⟩
      have hv : hp_in (ps_le (ry_s Y) 0) (ry_h Y v) := by
        rw [ry_hv hz.1]
        exact hs v.toNat (by omega)
      have rv := (P4 v.toNat (by omega)).1
      rw [← ry_hv hz.1] at rv
      refine k_load M ok qv hz.1 hz.2 (by omega) a7.1 (fun h1 H1 M1 f1 => ?_)
      have o1 : ∀ q, q ≠ h_r h pa 7 → H1 q = z_i h q := fun q hq => by rw [f1, m_uN _ _ _ _ hq]; rfl
      obtain ⟨ok1, I1, F1, z1⟩ := one M1 o1
      have ef1 : hp6 (z_i h1 (h_r h pa 7)) (ry_h Y v) := fun q hq => by
        rw [M1.zi, f1, m_uE, if_pos hq]
        exact rv q hq
      obtain ⟨okp, re, rw_⟩ := pa_FX ok ok1 F1
      have L := p_wsL (f := ry_h Y v) 6
      have e6 : (2 : Nat) ^ 6 = 64 := by decide
      rw [e6] at L
      have M1' := RX.start h1
      have P1_ : pr_of h1 pa Y := ⟨⟨by rw [z1]; exact P1, P2, P3⟩, fun u hu => by
        obtain ⟨u1, u2⟩ := P4 u hu
        refine ⟨fun q hq => ?_, ?_⟩
        · rw [rw_ (18 + u) (by omega) (by omega), py_kp ok F1 (by omega) (by omega)]
          exact u1 q hq
        · rw [re]
          have := py_kp ok F1 (i := 12) (by decide) (by decide) u
          rw [show pa_w h pa 12 = h_r h pa 3 from rfl] at this
          rw [this]
          exact u2⟩
      refine r_pf33 M1' rfl rfl qw rfl qv rfl qa rfl qb ?_
      have n0 : ps_n (ps_le (ry_s Y) 0) = ps_n (ry_s Y) := rfl
      have wc : w = 1 ∨ w = 2 ∨ w = 3 ∨ w = 4 ∨ w = 5 := by omega
      rcases wc with c | c | c | c | c
      · subst c
        refine hI_ts (t := 68) (o := 34) rfl qw (by decide) (by decide) rfl (by decide) ?_
        obtain ⟨k0, k1⟩ := av.1 rfl
        refine r_pf68 M1' rfl rfl qw rfl qv rfl qa rfl qb okp.1.2.1 okp.1.1 ?_
        refine k_put okp (by rw [re]; exact I1) (by rw [re]; exact ef1) sh0 hv (by omega) ((z1 12).trans et) t0 t1 qa k0 k1 (fun x h' hx => ?_)
        rcases hx with ⟨x0, xc, xh⟩ | ⟨x0, xc, xi, xe, xt, xo, xF, xz⟩
        · subst xh
          exact r_pf73 M1' rfl (by omega) (by omega) (g x h' (Or.inl ⟨x0, by rw [ry_do1 rfl is, if_pos xc], I1, (z1 12).trans et⟩) ok1 F1 (fun q _ => z1 q))
        · rw [re] at xi xe xo xF
          have xF' : FX (h_r h pa 0) (py_Y h pa) h1 h' := xF.mono (fun q z => by
            rcases z with z | z | ⟨i, hi, z⟩
            · exact Or.inl z
            · refine Or.inr (Or.inl ?_)
              rw [z, re, (nx_r nx F1).2.2.1]
            · exact Or.inr (Or.inr ⟨i, hi, by rw [z, rw_ i (by omega) (by omega)]⟩))
          exact r_pf73 (RX.start h') rfl (by omega) (by omega) (g x h' (Or.inr ⟨x0, ((pm_pu (ps_le (ry_s Y) 0) (ry_h Y v) (ry_t Y) a).1, (pm_pu (ps_le (ry_s Y) 0) (ry_h Y v) (ry_t Y) a).2, ry_t Y + 1), by rw [ry_do1 rfl is, if_neg xc], xi, xe, xt⟩) xo (F1.trans xF') (fun q hq => (xz q hq).trans (z1 q)))
      · subst c
        refine hI_ts (t := 74) (o := 40) rfl qw (by decide) (by decide) rfl (by decide) ?_
        refine r_pf74 M1' rfl rfl qw rfl qv rfl qa rfl qb okp.1.2.1 okp.1.1 ?_
        refine k_meldW (Y := Y) okp (by rw [re]; exact I1) P1_ (by rw [re]; exact ef1) sh0 hv (fun u hu => hs u hu) (by omega) qa (fun x h' hx => ?_)
        rcases hx with ⟨x0, xc, xh⟩ | ⟨x0, xc, xi, xe, xo, xF, xz⟩
        · subst xh
          exact r_pf79 M1' rfl (by omega) (by omega) (g x h' (Or.inl ⟨x0, by rw [ry_do2 rfl is, if_neg xc], I1, (z1 12).trans et⟩) ok1 F1 (fun q _ => z1 q))
        · rw [re] at xi xe xo xF
          have xF' : FX (h_r h pa 0) (py_Y h pa) h1 h' := xF.mono (fun q z => by
            rcases z with z | z | ⟨i, hi, z⟩
            · exact Or.inl z
            · refine Or.inr (Or.inl ?_)
              rw [z, re, (nx_r nx F1).2.2.1]
            · exact Or.inr (Or.inr ⟨i, hi, by rw [z, rw_ i (by omega) (by omega)]⟩))
          exact r_pf79 (RX.start h') rfl (by omega) (by omega) (g x h' (Or.inr ⟨x0, ((pm_md (ps_le (ry_s Y) 0) (ry_h Y v) (ry_h Y a)).1, (pm_md (ps_le (ry_s Y) 0) (ry_h Y v) (ry_h Y a)).2, ry_t Y), by rw [ry_do2 rfl is, if_pos xc], xi, xe, ((xz 12).trans (z1 12)).trans et⟩) xo (F1.trans xF') (fun q hq => (xz q).trans (z1 q)))
      · subst c
        refine hI_ts (t := 80) (o := 46) rfl qw (by decide) (by decide) rfl (by decide) ?_
        refine r_pf80 M1' rfl rfl qw rfl qv rfl qa rfl qb okp.1.1 (by rw [re]; exact ok1.1.2.1) (by rw [re]; exact ok1.1.1) ?_
        rw [re, re]
        obtain ⟨r2, -, -, -⟩ := nx_r nx F1
        have nx1 := nx_FX nx ok1 F1
        refine k_take ok1 (ap_FX a7 F1) nx1.2.1.1 nx1.2.1.2 (by rw [r2]; exact Ne.symm h7.2.1) I1 ef1 sh0 hv (by omega) (by omega) (fun x h' hx xo xi xe xF => ?_)
        have xz : ∀ q, z_i h' pa q = z_i h1 pa q := fun q => by
          have n9 := pa_ne okp (i := 9) (by decide)
          have n11 := pa_ne okp (i := 11) (by decide)
          have k11 : pa_w h1 pa 11 = h_r h1 (h_r h pa 0) 0 := by
            show h_r h1 (h_r h1 pa 0) 0 = _
            rw [re]
          rw [k11, re] at n11
          rw [rw_ 9 (by decide) (by decide)] at n9
          exact (xF.kp (q := pa) okp.1.2.2 pn.1 n11.1 n11.2.2.2.2.2 (fun z => by
            rcases z with z | z
            · exact p7 z
            · rw [r2] at z
              exact n9.1 z)).2.1 q
        have xF' : FX (h_r h pa 0) (py_Y h pa) h1 h' := xF.mono (fun q z => by
          rcases z with z | z
          · exact Or.inr (Or.inr ⟨7, by decide, z⟩)
          · rw [r2] at z
            exact Or.inr (Or.inr ⟨9, by decide, z⟩))
        rcases hx with ⟨x0, xc⟩ | ⟨x0, xc⟩
        · rw [pm_tk0 xc] at xi
          exact r_pf91 (RX.start h') rfl (by omega) (by omega) (g x h' (Or.inl ⟨x0, by rw [ry_do3 rfl is, if_pos xc], xi, ((xz 12).trans (z1 12)).trans et⟩) xo (F1.trans xF') (fun q _ => (xz q).trans (z1 q)))
        · exact r_pf91 (RX.start h') rfl (by omega) (by omega) (g x h' (Or.inr ⟨x0, ((pm_tk (ps_le (ry_s Y) 0, ry_h Y v)).1, (pm_tk (ps_le (ry_s Y) 0, ry_h Y v)).2, ry_t Y), by rw [ry_do3 rfl is, if_neg xc], xi, xe, ((xz 12).trans (z1 12)).trans et⟩) xo (F1.trans xF') (fun q _ => (xz q).trans (z1 q)))
      · subst c
        refine hI_ts (t := 92) (o := 58) rfl qw (by decide) (by decide) rfl (by decide) ?_
        obtain ⟨b0, b1⟩ := av.2 rfl
        refine r_pf92 M1' rfl rfl qw rfl qv rfl qa rfl qb okp.1.1 (by rw [re]; exact ok1.1.2.1) (by rw [re]; exact ok1.1.1) ?_
        rw [re, re]
        have nx1 := nx_FX nx ok1 F1
        have hx1 := hx_FX nx h7 F1
        obtain ⟨r2, r3, r4, r5⟩ := nx_r nx F1
        refine k_lower nx1 hx1 I1 ef1 sh0 hv (by omega) qa qb b0 (fun x h' hx xo xF => ?_)
        have yy : ∀ q, lw_Y h1 (h_r h pa 0) (h_r h pa 7) q → py_Y h pa q := fun q z => by
          rcases z with z | z | z | ⟨k, hk, z⟩
          · exact Or.inr (Or.inr ⟨7, by decide, z⟩)
          · rw [r3] at z
            exact Or.inr (Or.inr ⟨10, by decide, z⟩)
          · rw [r4] at z
            exact Or.inr (Or.inl z)
          · rw [r4, r5] at z
            exact Or.inr (Or.inr ⟨k, by omega, by rw [pa_wk hk]; exact z⟩)
        have xz : ∀ q, z_i h' pa q = z_i h1 pa q := fun q => by
          have n11 := pa_ne okp (i := 11) (by decide)
          have k11 : pa_w h1 pa 11 = h_r h1 (h_r h pa 0) 0 := by
            show h_r h1 (h_r h1 pa 0) 0 = _
            rw [re]
          rw [k11, re] at n11
          refine (xF.kp (q := pa) okp.1.2.2 pn.1 n11.1 n11.2.2.2.2.2 (fun z => ?_)).2.1 q
          rcases z with z | z | z | ⟨k, hk, z⟩
          · exact p7 z
          · rw [r3] at z
            exact (pa_ne ok (i := 10) (by decide)).1 z
          · rw [r4] at z
            exact pn.2.1 z
          · rw [r4, r5, ← pa_wk (h := h) (pa := pa) hk] at z
            exact (pa_ne ok (i := k) (by omega)).1 z
        have xF' : FX (h_r h pa 0) (py_Y h pa) h1 h' := xF.mono yy
        rcases hx with ⟨x0, xc, xi, xe⟩ | ⟨x0, X, xc, xi, xe⟩
        · exact r_pf106 (RX.start h') rfl (by omega) (by omega) (g x h' (Or.inl ⟨x0, by rw [ry_do4 rfl is, xc], xi, ((xz 12).trans (z1 12)).trans et⟩) xo (F1.trans xF') (fun q _ => (xz q).trans (z1 q)))
        · exact r_pf106 (RX.start h') rfl (by omega) (by omega) (g x h' (Or.inr ⟨x0, (X.1, X.2, ry_t Y), by rw [ry_do4 rfl is, xc], xi, xe, ((xz 12).trans (z1 12)).trans et⟩) xo (F1.trans xF') (fun q _ => (xz q).trans (z1 q)))
      · subst c
        refine hI_ts (t := 107) (o := 73) rfl qw (by decide) (by decide) rfl (by decide) ?_
        refine r_pf107 M1' rfl rfl qw rfl qv rfl qa rfl qb (fun xi0 qi0 lv2 b0 b1 b2 b3 b4 b5 => ?_)
        refine l_ctR (R := pm_ct a 63 (ps_le (ry_s Y) 0, ry_h Y v)) (n0 := ps_n (ry_s Y)) okp cap qw qv qa qb (fun x h' x1 xo xi xe xF xz => ?_) 63 0 (ps_le (ry_s Y) 0) (ry_h Y v) lv2 h1 xi0 rfl qi0 (by rw [re]; exact ok1) (by rw [re]; exact I1) (by rw [re]; exact ef1) sh0 hv (by omega) rfl FX.same (fun _ => rfl) b0 b1 b2 b3 b4 b5
        rw [re] at xo xi xe xF
        have xF' : FX (h_r h pa 0) (py_Y h pa) h1 h' := xF.mono (fun q z => by
          rcases z with z | z | ⟨i, hi, z⟩
          · exact Or.inl z
          · refine Or.inr (Or.inl ?_)
            rw [z, re, (nx_r nx F1).2.2.1]
          · exact Or.inr (Or.inr ⟨i, hi, by rw [z, rw_ i (by omega) (by omega)]⟩))
        exact g x h' (Or.inr ⟨x1, ((pm_ct a 63 (ps_le (ry_s Y) 0, ry_h Y v)).1, (pm_ct a 63 (ps_le (ry_s Y) 0, ry_h Y v)).2, ry_t Y), by rw [ry_do5 (by decide) (by decide) (by decide) (by decide) (by decide) is], xi, xe, ((xz 12).trans (z1 12)).trans et⟩) xo (F1.trans xF') (fun q _ => (xz q).trans (z1 q))
    · have hz : ¬ (0 ≤ v ∧ v ≤ (h_i h pa 11).toInt) := by
        rcases hz with w | w
        · omega
        · exact w.2
      exact g x1 h (Or.inl ⟨q1, ry_doF cw (ry_isF (fun z => hz ⟨z.1, by omega⟩)), I, et⟩) ok.2.1 FX.same (fun _ _ => rfl)
  · refine k_fill M a7.1.1 a7.1.2.1 l7 q1 (fun h1 H1 M1 p1 p2 => ?_)
    obtain ⟨ok1, I1, F1, z1⟩ := one M1 (fun q hq => by rw [p1 q hq]; rfl)
    refine r_pf12 (pa := pa) M1 (fun x2 q2 => g x2 h1 (Or.inr ⟨q2, _, ry_do0 cw, I1, fun q hq => ?_, (z1 12).trans et⟩) ok1 F1 (fun q _ => z1 q))
    rw [M1.zi]
    exact p2 q (by have := a7.1.2.2; omega)
end
end
section
-- HOW MANY BITS, UP TO SIX
def bc_us (x y : Int32) : Int32 := (x.toUInt32 >>> (y.toUInt32 &&& Int32.toUInt32 31)).toInt32
def bc_1 (x : Int32) : Int32 := x - (bc_us x (Int32.ofInt 1) &&& 1431655765)
def bc_2 (x : Int32) : Int32 := (x &&& 858993459) + (bc_us x (Int32.ofInt 2) &&& 858993459)
def bc_3 (x : Int32) : Int32 := (x + bc_us x (Int32.ofInt 4)) &&& 252645135
def bc_4 (x : Int32) : Int32 := x + bc_us x (Int8.ofInt 8).toInt32
def bc_5 (x : Int32) : Int32 := x + bc_us x (Int8.ofInt 16).toInt32
theorem bc_key : ∀ n : Nat, n < 64 → ((bc_5 (bc_4 (bc_3 (bc_2 (bc_1 (Int32.ofInt n)))))) &&& (Int8.ofInt 63).toInt32).toInt = (p_bc n : Int) := by decide +kernel
section
variable {i pc pc' : Nat} {lv : List (Nat × Value)} {st : List Value} {h : MH} {Q : Option Value → MH → Prop}
theorem hX_us {x y : Int32} (a : m_at i pc = some (.iushr, 1)) (hp : pc + 1 = pc') (g : HJ i pc' lv (.int (bc_us x y) :: st) h Q) : HJ i pc lv (.int y :: .int x :: st) h Q := by
  subst hp
  exact HJ.ex a (Or.inl rfl) rfl g
theorem hX_an {x y : Int32} (a : m_at i pc = some (.iand, 1)) (hp : pc + 1 = pc') (g : HJ i pc' lv (.int (x &&& y) :: st) h Q) : HJ i pc lv (.int y :: .int x :: st) h Q := by
  subst hp
  exact HJ.ex a (Or.inl rfl) rfl g
theorem hX_lw {idx : Nat} {x : Int32} (a : m_at i pc = some (.ldc_w idx, 3)) (hx : m_ic i idx = some x) (hp : pc + 3 = pc') (g : HJ i pc' lv (.int x :: st) h Q) : HJ i pc lv st h Q := by
  subst hp
  refine HJ.ex a (Or.inl rfl) ?_ g
  show e_ldc 3 i idx pc lv st h = _
  unfold e_ldc
  rw [hx]
  rfl
theorem k_bcG {x : Int32} (g : Q (some (.int ((bc_5 (bc_4 (bc_3 (bc_2 (bc_1 x))))) &&& (Int8.ofInt 63).toInt32))) h) : HJ 82 0 (lv_args 0 [.int x]) [] h Q := by
  refine hI_il (k := 0) (x := x) rfl rfl rfl ?_
  refine hI_il (k := 0) (x := x) rfl rfl rfl ?_
  refine hI_ic (n := 1) rfl rfl ?_
  refine hX_us rfl rfl ?_
  refine hX_lw (x := 1431655765) rfl rfl rfl ?_
  refine hX_an rfl rfl ?_
  refine hI_sub rfl rfl ?_
  show HJ 82 9 _ [.int (bc_1 x)] h Q
  refine hI_is (k := 0) rfl (by decide +kernel) rfl ?_
  generalize e1 : bc_1 x = x1
  refine hI_il (k := 0) (x := x1) rfl rfl rfl ?_
  refine hX_lw (x := 858993459) rfl rfl rfl ?_
  refine hX_an rfl rfl ?_
  refine hI_il (k := 0) (x := x1) rfl rfl rfl ?_
  refine hI_ic (n := 2) rfl rfl ?_
  refine hX_us rfl rfl ?_
  refine hX_lw (x := 858993459) rfl rfl rfl ?_
  refine hX_an rfl rfl ?_
  refine hI_add rfl rfl ?_
  show HJ 82 23 _ [.int (bc_2 x1)] h Q
  refine hI_is (k := 0) rfl (by decide +kernel) rfl ?_
  generalize e2 : bc_2 x1 = x2
  refine hI_il (k := 0) (x := x2) rfl rfl rfl ?_
  refine hI_il (k := 0) (x := x2) rfl rfl rfl ?_
  refine hI_ic (n := 4) rfl rfl ?_
  refine hX_us rfl rfl ?_
  refine hI_add rfl rfl ?_
  refine hX_lw (x := 252645135) rfl rfl rfl ?_
  refine hX_an rfl rfl ?_
  show HJ 82 33 _ [.int (bc_3 x2)] h Q
  refine hI_is (k := 0) rfl (by decide +kernel) rfl ?_
  generalize e3 : bc_3 x2 = x3
  refine hI_il (k := 0) (x := x3) rfl rfl rfl ?_
  refine hI_il (k := 0) (x := x3) rfl rfl rfl ?_
  refine hI_bp (n := 8) rfl rfl ?_
  refine hX_us rfl rfl ?_
  refine hI_add rfl rfl ?_
  show HJ 82 40 _ [.int (bc_4 x3)] h Q
  refine hI_is (k := 0) rfl (by decide +kernel) rfl ?_
  generalize e4 : bc_4 x3 = x4
  refine hI_il (k := 0) (x := x4) rfl rfl rfl ?_
  refine hI_il (k := 0) (x := x4) rfl rfl rfl ?_
  refine hI_bp (n := 16) rfl rfl ?_
  refine hX_us rfl rfl ?_
  refine hI_add rfl rfl ?_
  show HJ 82 47 _ [.int (bc_5 x4)] h Q
  refine hI_is (k := 0) rfl (by decide +kernel) rfl ?_
  generalize e5 : bc_5 x4 = x5
  refine hI_il (k := 0) (x := x5) rfl rfl rfl ?_
  refine hI_bp (n := 63) rfl rfl ?_
  refine hX_an rfl rfl ?_
  refine hI_ri rfl rfl ?_
  rw [← e5, ← e4, ← e3, ← e2, ← e1]
  exact g
theorem k_bc {x : Int32} {n : Nat} (q : x.toInt = (n : Int)) (n63 : n ≤ 63) (g : ∀ w : Int32, w.toInt = (p_bc n : Int) → Q (some (.int w)) h) : HJ 82 0 (lv_args 0 [.int x]) [] h Q := by
  have ex : x = Int32.ofInt n := by
    rw [← q, Int32.ofInt_toInt]
  subst ex
  exact k_bcG (g _ (bc_key n (by omega)))
theorem bc_key2 : ∀ n : Nat, n < 127 → ((bc_5 (bc_4 (bc_3 (bc_2 (bc_1 (Int32.ofInt n)))))) &&& (Int8.ofInt 63).toInt32).toInt = ((p_bc n + n / 64 : Nat) : Int) := by decide +kernel
theorem k_bc2 {x : Int32} {n : Nat} (q : x.toInt = (n : Int)) (n126 : n ≤ 126) (g : ∀ w : Int32, w.toInt = ((p_bc n + n / 64 : Nat) : Int) → Q (some (.int w)) h) : HJ 82 0 (lv_args 0 [.int x]) [] h Q := by
  have ex : x = Int32.ofInt n := by
    rw [← q, Int32.ofInt_toInt]
  subst ex
  exact k_bcG (g _ (bc_key2 n (by omega)))
theorem hI_max {idx nest : Nat} {x y : Int32} (a : m_at i pc = some (.invokestatic idx, 3)) (hm : m_ml i idx = some (nest, 47)) (hc : nest = 0 ∧ 1 ≤ m_fr i ∧ m_cat st + 13 ≤ m_lo i) (hp : pc + 3 = pc') (g : HJ i pc' lv (.int (if x < y then y else x) :: st) h Q) : HJ i pc lv (.int y :: .int x :: st) h Q := by
  subst hp
  refine HJ.ex a (Or.inl rfl) ?_ g
  show e_call 0 i idx pc lv (.int y :: .int x :: st) h = _
  unfold e_call
  rw [hm]
  dsimp only
  rw [if_neg (by decide), if_neg (by decide), if_pos (show (47 : Nat) = m_jmin ∨ (47 : Nat) = m_jmax from Or.inr rfl), if_pos ⟨rfl, hc⟩, if_neg (show ¬ (47 : Nat) = m_jmin by decide)]
  rfl
end
-- WHAT IS CHANGED IN PLACE, LONGS TOO
def RL (h0 h : MH) (H : Nat → Nat → Int) (L : Nat → Nat → Int64) : Prop := h.1 = h0.1 ∧ h_k h = h_k h0 ∧ h_r h = h_r h0 ∧ (∀ a j, h_l h a j = L a j) ∧ ∀ a j, z_i h a j = H a j
theorem RL.ofRX {h0 h : MH} {H : Nat → Nat → Int} (M : RX h0 h H) : RL h0 h H (h_l h0) := ⟨M.1, M.2.1, M.2.2.1.1, fun a j => by rw [M.2.2.1.2], M.2.2.2⟩
theorem RL.sl {h0 h : MH} {H : Nat → Nat → Int} {L : Nat → Nat → Int64} {o j : Nat} {x : Int64} (M : RL h0 h H L) : RL h0 (h_sl h o j x) H (fun a q => if a = o ∧ q = j then x else L a q) := ⟨M.1, M.2.1, M.2.2.1, fun a q => by
  show m_u h.2.2.2.1 o (m_u (h.2.2.2.1 o) j x) a q = (if a = o ∧ q = j then x else L a q)
  by_cases e : a = o
  · subst e
    rw [m_uE]
    by_cases f : q = j
    · rw [f, m_uE, if_pos ⟨rfl, rfl⟩]
    · rw [m_uN _ _ _ _ f, if_neg (fun z => f z.2)]
      exact M.2.2.2.1 a q
  · rw [m_uN _ _ _ _ e, if_neg (fun z => e z.1)]
    exact M.2.2.2.1 a q, M.2.2.2.2⟩
theorem RL.trX {h0 h h1 : MH} {H H1 : Nat → Nat → Int} {L : Nat → Nat → Int64} (M : RL h0 h H L) (N : RX h h1 H1) : RL h0 h1 H1 L := ⟨N.1.trans M.1, N.2.1.trans M.2.1, N.2.2.1.1.trans M.2.2.1, fun a j => by rw [N.2.2.1.2]; exact M.2.2.2.1 a j, N.2.2.2⟩
theorem FX.ofRL {nd : Nat} {Y : Nat → Prop} {h0 h : MH} {H : Nat → Nat → Int} {L : Nat → Nat → Int64} (M : RL h0 h H L) (e5 : H nd 5 = z_i h0 nd 5) (eD : ∀ j, L (h_r h0 nd 1) j = h_l h0 (h_r h0 nd 1) j) (e : ∀ a, ¬ (a = nd ∨ a = h_r h0 nd 0 ∨ a = h_r h0 nd 1 ∨ Y a) → (∀ j, H a j = z_i h0 a j) ∧ ∀ j, L a j = h_l h0 a j) : FX nd Y h0 h := by
  obtain ⟨m1, m2, m3, m4, m5⟩ := M
  have z5 : z_i h nd 5 = z_i h0 nd 5 := (m5 nd 5).trans e5
  exact ⟨by unfold h_n; rw [m1]; exact Nat.le_refl _, ⟨fun k _ => Or.inl (by rw [m3]), by omega, fun j _ => by rw [m3, m4]; exact eD j, fun j h1 h2 => absurd h2 (by omega)⟩, fun a _ => ⟨by rw [m2], fun k _ => by rw [m3], fun hn => ⟨fun j => by rw [m5]; exact (e a hn).1 j, fun j => by rw [m4]; exact (e a hn).2 j⟩⟩⟩
theorem nl_RL {h0 h : MH} {H : Nat → Nat → Int} {L : Nat → Nat → Int64} {nd : Nat} (ok : nl_ok h0 nd) (M : RL h0 h H L) (e : H nd 5 = z_i h0 nd 5) : nl_ok h nd := by
  obtain ⟨m1, m2, m3, m4, m5⟩ := M
  have en : h_n h = h_n h0 := by unfold h_n; rw [m1]
  have e5 : z_i h nd 5 = z_i h0 nd 5 := (m5 nd 5).trans e
  unfold nl_ok
  rw [en, m2, m3, e5]
  exact ok
-- ROWS OF ACTS, WHERE THEY STAND
def ac_ok (h : MH) (pa ac : Nat) : Prop := ((h_k h ac).1 = 1 ∧ 16 ≤ ac ∧ ac < 16 + h_n h) ∧ ((h_k h (h_r h ac 0)).1 = 20 ∧ h_r h ac 0 < 16 + h_n h ∧ (40 : Int) ≤ ((h_k h (h_r h ac 0)).2 : Int)) ∧ ((h_k h (h_r h ac 1)).1 = 20 ∧ h_r h ac 1 < 16 + h_n h ∧ (120 : Int) ≤ ((h_k h (h_r h ac 1)).2 : Int)) ∧ ∀ i, i < 59 → h_r h ac 0 ≠ pa_w h pa i ∧ h_r h ac 1 ≠ pa_w h pa i
def ac_of (H : Nat → Nat → Int) (ac r0 r1 : Nat) (T : Nat → Int) (N : Nat) : Prop := H ac 2 = (N : Int) ∧ ∀ k : Nat, k < N → H r0 k = T (4 * k) ∧ ∀ i : Nat, i < 3 → H r1 (3 * k + i) = T (4 * k + 1 + i)
section
variable {lv : List (Nat × Value)} {Q : Option Value → MH → Prop} {h0 h : MH} {H : Nat → Nat → Int}
theorem r_kof {ac : Nat} {k : Int} (M : RX h0 h H) (e0 : m_lk lv 0 = some (.ref ac)) {lx1 : Int32} (e1 : m_lk lv 1 = some (.int lx1)) (lq1 : lx1.toInt = k) (pk0 : 0 ≤ k) (pk1 : k ≤ 39) (hk0 : (h_k h0 ac).1 = 1) (ha0 : (h_k h0 (h_r h0 ac 0)).1 = 20) (hl0 : 40 ≤ ((h_k h0 (h_r h0 ac 0)).2 : Int))
    (g0 : ∀ x1 : Int32, x1.toInt = (-1) → k < 0 → Q (some (.int x1)) h)
    (g1 : ∀ x3 : Int32, x3.toInt = (-1) → k ≥ 0 → k ≥ H ac 2 → Q (some (.int x3)) h)
    (g2 : ∀ x4 : Int32, x4.toInt = H (h_r h0 ac 0) (k).toNat → k ≥ 0 → k < H ac 2 → Q (some (.int x4)) h)
    : HJ 54 0 lv [] h Q := by
  refine hI_il (k := 1) rfl e1 rfl ?_ -- 0
  refine hM_zlt (off := 20) (t := 21) rfl lq1 (by decide) rfl (fun c1 => ?_) (fun c1 => ?_) -- 1
  · refine hM_ic (n := (-1)) rfl (by decide) rfl (fun x1 q1 => ?_) -- 21
    refine hI_ri rfl rfl ?_ -- 22
    exact g0 x1 q1 c1
  · refine hI_il (k := 1) rfl e1 rfl ?_ -- 4
    refine hI_al (k := 0) rfl e0 rfl ?_ -- 5
    refine hR_gi (c := 0) (k := 2) M hk0 rfl rfl rfl rfl (fun x2 q2 => ?_) -- 6
    have gb2 : -2147483648 ≤ H ac 2 ∧ H ac 2 ≤ 2147483647 := by rw [← q2]; exact g_iT _
    refine hM_cge (off := 12) (t := 21) rfl lq1 q2 (by decide) rfl (fun c9 => ?_) (fun c9 => ?_) -- 9
    · refine hM_ic (n := (-1)) rfl (by decide) rfl (fun x3 q3 => ?_) -- 21
      refine hI_ri rfl rfl ?_ -- 22
      exact g1 x3 q3 c1 c9
    · refine hI_al (k := 0) rfl e0 rfl ?_ -- 12
      refine hR_gr (c := 0) (k := 0) M hk0 rfl rfl rfl rfl ?_ -- 13
      refine hI_il (k := 1) rfl e1 rfl ?_ -- 16
      refine hR_ia M ha0 lq1 (by omega) (by omega) rfl rfl (fun x4 q4 => ?_) -- 17
      have gb4 : -2147483648 ≤ H (h_r h0 ac 0) (k).toNat ∧ H (h_r h0 ac 0) (k).toNat ≤ 2147483647 := by rw [← q4]; exact g_iT _
      refine hI_go (pc' := 22) (off := 4) rfl (by decide) ?_ -- 18
      refine hI_ri rfl rfl ?_ -- 22
      exact g2 x4 q4 c1 c9
theorem r_nof {ac : Nat} {k i : Int} (M : RX h0 h H) (e0 : m_lk lv 0 = some (.ref ac)) {lx1 : Int32} (e1 : m_lk lv 1 = some (.int lx1)) (lq1 : lx1.toInt = k) {lx2 : Int32} (e2 : m_lk lv 2 = some (.int lx2)) (lq2 : lx2.toInt = i) (pk0 : 0 ≤ k) (pk1 : k ≤ 39) (pi0 : 0 ≤ i) (pi1 : i ≤ 2) (hk0 : (h_k h0 ac).1 = 1) (ha0 : (h_k h0 (h_r h0 ac 1)).1 = 20) (hl0 : 120 ≤ ((h_k h0 (h_r h0 ac 1)).2 : Int))
    (g0 : ∀ x1 : Int32, x1.toInt = (-1) → k < 0 → Q (some (.int x1)) h)
    (g1 : ∀ x3 : Int32, x3.toInt = (-1) → k ≥ 0 → k ≥ H ac 2 → Q (some (.int x3)) h)
    (g2 : ∀ x4 : Int32, x4.toInt = (-1) → k ≥ 0 → k < H ac 2 → i < 0 → Q (some (.int x4)) h)
    (g3 : ∀ x6 : Int32, x6.toInt = (-1) → k ≥ 0 → k < H ac 2 → i ≥ 0 → i ≥ 3 → Q (some (.int x6)) h)
    (g4 : ∀ x10 : Int32, x10.toInt = H (h_r h0 ac 1) ((k * 3) + i).toNat → k ≥ 0 → k < H ac 2 → i ≥ 0 → i < 3 → Q (some (.int x10)) h)
    : HJ 55 0 lv [] h Q := by
  refine hI_il (k := 1) rfl e1 rfl ?_ -- 0
  refine hM_zlt (off := 33) (t := 34) rfl lq1 (by decide) rfl (fun c1 => ?_) (fun c1 => ?_) -- 1
  · refine hM_ic (n := (-1)) rfl (by decide) rfl (fun x1 q1 => ?_) -- 34
    refine hI_ri rfl rfl ?_ -- 35
    exact g0 x1 q1 c1
  · refine hI_il (k := 1) rfl e1 rfl ?_ -- 4
    refine hI_al (k := 0) rfl e0 rfl ?_ -- 5
    refine hR_gi (c := 0) (k := 2) M hk0 rfl rfl rfl rfl (fun x2 q2 => ?_) -- 6
    have gb2 : -2147483648 ≤ H ac 2 ∧ H ac 2 ≤ 2147483647 := by rw [← q2]; exact g_iT _
    refine hM_cge (off := 25) (t := 34) rfl lq1 q2 (by decide) rfl (fun c9 => ?_) (fun c9 => ?_) -- 9
    · refine hM_ic (n := (-1)) rfl (by decide) rfl (fun x3 q3 => ?_) -- 34
      refine hI_ri rfl rfl ?_ -- 35
      exact g1 x3 q3 c1 c9
    · refine hI_il (k := 2) rfl e2 rfl ?_ -- 12
      refine hM_zlt (off := 21) (t := 34) rfl lq2 (by decide) rfl (fun c13 => ?_) (fun c13 => ?_) -- 13
      · refine hM_ic (n := (-1)) rfl (by decide) rfl (fun x4 q4 => ?_) -- 34
        refine hI_ri rfl rfl ?_ -- 35
        exact g2 x4 q4 c1 c9 c13
      · refine hI_il (k := 2) rfl e2 rfl ?_ -- 16
        refine hM_ic (n := 3) rfl (by decide) rfl (fun x5 q5 => ?_) -- 17
        refine hM_cge (off := 16) (t := 34) rfl lq2 q5 (by decide) rfl (fun c18 => ?_) (fun c18 => ?_) -- 18
        · refine hM_ic (n := (-1)) rfl (by decide) rfl (fun x6 q6 => ?_) -- 34
          refine hI_ri rfl rfl ?_ -- 35
          exact g3 x6 q6 c1 c9 c13 c18
        · refine hI_al (k := 0) rfl e0 rfl ?_ -- 21
          refine hR_gr (c := 0) (k := 1) M hk0 rfl rfl rfl rfl ?_ -- 22
          refine hI_il (k := 1) rfl e1 rfl ?_ -- 25
          refine hM_ic (n := 3) rfl (by decide) rfl (fun x7 q7 => ?_) -- 26
          refine hM_mul rfl lq1 q7 (by omega) (by omega) rfl (fun x8 q8 => ?_) -- 27
          refine hI_il (k := 2) rfl e2 rfl ?_ -- 28
          refine hM_add rfl q8 lq2 (by omega) (by omega) rfl (fun x9 q9 => ?_) -- 29
          refine hR_ia M ha0 q9 (by omega) (by omega) rfl rfl (fun x10 q10 => ?_) -- 30
          have gb10 : -2147483648 ≤ H (h_r h0 ac 1) ((k * 3) + i).toNat ∧ H (h_r h0 ac 1) ((k * 3) + i).toNat ≤ 2147483647 := by rw [← q10]; exact g_iT _
          refine hI_go (pc' := 35) (off := 4) rfl (by decide) ?_ -- 31
          refine hI_ri rfl rfl ?_ -- 35
          exact g4 x10 q10 c1 c9 c13 c18
theorem r_bit {v : Int} (M : RX h0 h H) {lx0 : Int32} (e0 : m_lk lv 0 = some (.int lx0)) (lq0 : lx0.toInt = v) 
    (g0 : Q (some (.long ((Int64.ofNat (1 : Fin 2).val) <<< ((Int32.ofInt (v)).toInt64 &&& 63)))) h)
    : HJ 52 0 lv [] h Q := by
  refine hI_lc (n := 1) rfl rfl ?_ -- 0
  refine hI_il (k := 0) rfl e0 rfl ?_ -- 1
  refine hM_lshl rfl lq0 rfl ?_ -- 2
  refine hI_rl rfl rfl ?_
  exact g0 
theorem r_la0 {li : Nat} {v a b : Int} (M : RX h0 h H) (e0 : m_lk lv 0 = some (.ref li)) {lx1 : Int32} (e1 : m_lk lv 1 = some (.int lx1)) (lq1 : lx1.toInt = v) {lx2 : Int32} (e2 : m_lk lv 2 = some (.int lx2)) (lq2 : lx2.toInt = a) {lx3 : Int32} (e3 : m_lk lv 3 = some (.int lx3)) (lq3 : lx3.toInt = b) (pv0 : 0 ≤ v) (pv1 : v ≤ 40) (pa1 : a < v) (pb1 : b < v) (hk0 : (h_k h0 li).1 = 2) (ha0 : (h_k h0 (h_r h0 li 0)).1 = 20) (hl0 : 41 ≤ ((h_k h0 (h_r h0 li 0)).2 : Int)) (hs0 : 16 ≤ h_r h0 li 0) (ha1 : (h_k h0 (h_r h0 li 1)).1 = 20) (hl1 : 41 ≤ ((h_k h0 (h_r h0 li 1)).2 : Int)) (hs1 : 16 ≤ h_r h0 li 1)
    (g0 : v < 0 → Q none h)
    (g1 : v ≥ 0 → v ≥ 41 → Q none h)
    (g2 : ∀ h3 : MH, ∀ H3 : Nat → Nat → Int, H3 = m_u H (h_r h0 li 0) (m_u (H (h_r h0 li 0)) (v).toNat ((-1))) → ∀ h5 : MH, ∀ H5 : Nat → Nat → Int, H5 = m_u H3 (h_r h0 li 1) (m_u (H3 (h_r h0 li 1)) (v).toNat ((-1))) → RX h0 h5 H5 → v ≥ 0 → v < 41 → a ≥ v → b ≥ v → HJ 52 0 (lv_args 0 [.int lx1]) [] h5 (fun v h' => HJ 51 51 lv (v.toList ++ [.int lx1, .ref (h_r h0 li 2)]) h' Q))
    (g3 : ∀ h3 : MH, ∀ H3 : Nat → Nat → Int, H3 = m_u H (h_r h0 li 0) (m_u (H (h_r h0 li 0)) (v).toNat ((-1))) → ∀ h6 : MH, ∀ H6 : Nat → Nat → Int, H6 = m_u H3 (h_r h0 li 1) (m_u (H3 (h_r h0 li 1)) (v).toNat (b)) → RX h0 h6 H6 → v ≥ 0 → v < 41 → a ≥ v → b < v → HJ 52 0 (lv_args 0 [.int lx1]) [] h6 (fun v h' => HJ 51 51 lv (v.toList ++ [.int lx1, .ref (h_r h0 li 2)]) h' Q))
    (g4 : ∀ h7 : MH, ∀ H7 : Nat → Nat → Int, H7 = m_u H (h_r h0 li 0) (m_u (H (h_r h0 li 0)) (v).toNat (a)) → ∀ h9 : MH, ∀ H9 : Nat → Nat → Int, H9 = m_u H7 (h_r h0 li 1) (m_u (H7 (h_r h0 li 1)) (v).toNat ((-1))) → RX h0 h9 H9 → v ≥ 0 → v < 41 → a < v → b ≥ v → HJ 52 0 (lv_args 0 [.int lx1]) [] h9 (fun v h' => HJ 51 51 lv (v.toList ++ [.int lx1, .ref (h_r h0 li 2)]) h' Q))
    (g5 : ∀ h7 : MH, ∀ H7 : Nat → Nat → Int, H7 = m_u H (h_r h0 li 0) (m_u (H (h_r h0 li 0)) (v).toNat (a)) → ∀ h10 : MH, ∀ H10 : Nat → Nat → Int, H10 = m_u H7 (h_r h0 li 1) (m_u (H7 (h_r h0 li 1)) (v).toNat (b)) → RX h0 h10 H10 → v ≥ 0 → v < 41 → a < v → b < v → HJ 52 0 (lv_args 0 [.int lx1]) [] h10 (fun v h' => HJ 51 51 lv (v.toList ++ [.int lx1, .ref (h_r h0 li 2)]) h' Q))
    : HJ 51 0 lv [] h Q := by
  refine hI_il (k := 1) rfl e1 rfl ?_ -- 0
  refine hM_zlt (off := 63) (t := 64) rfl lq1 (by decide) rfl (fun c1 => ?_) (fun c1 => ?_) -- 1
  · refine hI_rv rfl rfl ?_
    exact g0 c1
  · refine hI_il (k := 1) rfl e1 rfl ?_ -- 4
    refine hM_bp (n := 41) rfl (by decide) rfl (fun x1 q1 => ?_) -- 5
    refine hM_cge (off := 57) (t := 64) rfl lq1 q1 (by decide) rfl (fun c7 => ?_) (fun c7 => ?_) -- 7
    · refine hI_rv rfl rfl ?_
      exact g1 c1 c7
    · refine hI_al (k := 0) rfl e0 rfl ?_ -- 10
      refine hR_gr (c := 1) (k := 0) M hk0 rfl rfl rfl rfl ?_ -- 11
      refine hI_il (k := 1) rfl e1 rfl ?_ -- 14
      refine hI_il (k := 2) rfl e2 rfl ?_ -- 15
      refine hI_il (k := 1) rfl e1 rfl ?_ -- 16
      refine hM_cge (off := 7) (t := 24) rfl lq2 lq1 (by decide) rfl (fun c17 => ?_) (fun c17 => ?_) -- 17
      · refine hM_ic (n := (-1)) rfl (by decide) rfl (fun x2 q2 => ?_) -- 24
        refine hR_is M hs0 ha0 lq1 q2 (by omega) (by omega) rfl rfl (fun h3 H3 f3 M3 => ?_) -- 25
        refine hI_al (k := 0) rfl e0 rfl ?_ -- 26
        refine hR_gr (c := 1) (k := 1) M3 hk0 rfl rfl rfl rfl ?_ -- 27
        refine hI_il (k := 1) rfl e1 rfl ?_ -- 30
        refine hI_il (k := 3) rfl e3 rfl ?_ -- 31
        refine hI_il (k := 1) rfl e1 rfl ?_ -- 32
        refine hM_cge (off := 7) (t := 40) rfl lq3 lq1 (by decide) rfl (fun c33 => ?_) (fun c33 => ?_) -- 33
        · refine hM_ic (n := (-1)) rfl (by decide) rfl (fun x4 q4 => ?_) -- 40
          refine hR_is M3 hs1 ha1 lq1 q4 (by omega) (by omega) rfl rfl (fun h5 H5 f5 M5 => ?_) -- 41
          refine hI_al (k := 0) rfl e0 rfl ?_ -- 42
          refine hR_gr (c := 1) (k := 2) M5 hk0 rfl rfl rfl rfl ?_ -- 43
          refine hI_il (k := 1) rfl e1 rfl ?_ -- 46
          refine hI_il (k := 1) rfl e1 rfl ?_ -- 47
          refine hM_is0 (as := [.int lx1]) (r := [.int lx1, .ref (h_r h0 li 2)]) rfl rfl (by decide +kernel) rfl rfl rfl rfl rfl ?_ -- 48
          exact g2 h3 H3 f3 h5 H5 f5 M5 c1 c7 c17 c33
        · refine hI_il (k := 3) rfl e3 rfl ?_ -- 36
          refine hI_go (pc' := 41) (off := 4) rfl (by decide) ?_ -- 37
          refine hR_is M3 hs1 ha1 lq1 lq3 (by omega) (by omega) rfl rfl (fun h6 H6 f6 M6 => ?_) -- 41
          refine hI_al (k := 0) rfl e0 rfl ?_ -- 42
          refine hR_gr (c := 1) (k := 2) M6 hk0 rfl rfl rfl rfl ?_ -- 43
          refine hI_il (k := 1) rfl e1 rfl ?_ -- 46
          refine hI_il (k := 1) rfl e1 rfl ?_ -- 47
          refine hM_is0 (as := [.int lx1]) (r := [.int lx1, .ref (h_r h0 li 2)]) rfl rfl (by decide +kernel) rfl rfl rfl rfl rfl ?_ -- 48
          exact g3 h3 H3 f3 h6 H6 f6 M6 c1 c7 c17 c33
      · refine hI_il (k := 2) rfl e2 rfl ?_ -- 20
        refine hI_go (pc' := 25) (off := 4) rfl (by decide) ?_ -- 21
        refine hR_is M hs0 ha0 lq1 lq2 (by omega) (by omega) rfl rfl (fun h7 H7 f7 M7 => ?_) -- 25
        refine hI_al (k := 0) rfl e0 rfl ?_ -- 26
        refine hR_gr (c := 1) (k := 1) M7 hk0 rfl rfl rfl rfl ?_ -- 27
        refine hI_il (k := 1) rfl e1 rfl ?_ -- 30
        refine hI_il (k := 3) rfl e3 rfl ?_ -- 31
        refine hI_il (k := 1) rfl e1 rfl ?_ -- 32
        refine hM_cge (off := 7) (t := 40) rfl lq3 lq1 (by decide) rfl (fun c33 => ?_) (fun c33 => ?_) -- 33
        · refine hM_ic (n := (-1)) rfl (by decide) rfl (fun x8 q8 => ?_) -- 40
          refine hR_is M7 hs1 ha1 lq1 q8 (by omega) (by omega) rfl rfl (fun h9 H9 f9 M9 => ?_) -- 41
          refine hI_al (k := 0) rfl e0 rfl ?_ -- 42
          refine hR_gr (c := 1) (k := 2) M9 hk0 rfl rfl rfl rfl ?_ -- 43
          refine hI_il (k := 1) rfl e1 rfl ?_ -- 46
          refine hI_il (k := 1) rfl e1 rfl ?_ -- 47
          refine hM_is0 (as := [.int lx1]) (r := [.int lx1, .ref (h_r h0 li 2)]) rfl rfl (by decide +kernel) rfl rfl rfl rfl rfl ?_ -- 48
          exact g4 h7 H7 f7 h9 H9 f9 M9 c1 c7 c17 c33
        · refine hI_il (k := 3) rfl e3 rfl ?_ -- 36
          refine hI_go (pc' := 41) (off := 4) rfl (by decide) ?_ -- 37
          refine hR_is M7 hs1 ha1 lq1 lq3 (by omega) (by omega) rfl rfl (fun h10 H10 f10 M10 => ?_) -- 41
          refine hI_al (k := 0) rfl e0 rfl ?_ -- 42
          refine hR_gr (c := 1) (k := 2) M10 hk0 rfl rfl rfl rfl ?_ -- 43
          refine hI_il (k := 1) rfl e1 rfl ?_ -- 46
          refine hI_il (k := 1) rfl e1 rfl ?_ -- 47
          refine hM_is0 (as := [.int lx1]) (r := [.int lx1, .ref (h_r h0 li 2)]) rfl rfl (by decide +kernel) rfl rfl rfl rfl rfl ?_ -- 48
          exact g5 h7 H7 f7 h10 H10 f10 M10 c1 c7 c17 c33
theorem r_la51 {li : Nat} {v a b : Int} (M : RX h0 h H) (e0 : m_lk lv 0 = some (.ref li)) {lx1 : Int32} (e1 : m_lk lv 1 = some (.int lx1)) (lq1 : lx1.toInt = v) {lx2 : Int32} (e2 : m_lk lv 2 = some (.int lx2)) (lq2 : lx2.toInt = a) {lx3 : Int32} (e3 : m_lk lv 3 = some (.int lx3)) (lq3 : lx3.toInt = b) {sx1 : Int32} (sq1 : sx1.toInt = v) {sx2 : Int64}  (hs0 : 16 ≤ li) (hk0 : (h_k h0 li).1 = 2)
    (g0 : HJ 53 0 (lv_args 0 [.ref li, .int lx2]) [] h (fun v h' => HJ 51 56 lv (v.toList ++ [.long sx2, .int sx1, .ref (h_r h0 li 2)]) h' Q))
    : HJ 51 51 lv [.long sx2, .int sx1, .ref (h_r h0 li 2)] h Q := by
  refine hI_al (k := 0) rfl e0 rfl ?_ -- 51
  refine hI_il (k := 2) rfl e2 rfl ?_ -- 52
  refine HJ.call (j := 53) (as := [.ref li, .int lx2]) (rr := [.long sx2, .int sx1, .ref (h_r h0 li 2)]) (pc' := 56) (m_cR (kc := 1) rfl rfl (by decide +kernel) rfl rfl rfl ⟨rfl, by decide +kernel, by decide +kernel⟩ (by decide) hs0 (by rw [M.2.1]; exact hk0)) (by show 2 ≤ m_lc 53; decide +kernel) ?_ -- 53
  exact g0 
theorem r_la56 {li : Nat} {v a b : Int} (M : RX h0 h H) (e0 : m_lk lv 0 = some (.ref li)) {lx1 : Int32} (e1 : m_lk lv 1 = some (.int lx1)) (lq1 : lx1.toInt = v) {lx2 : Int32} (e2 : m_lk lv 2 = some (.int lx2)) (lq2 : lx2.toInt = a) {lx3 : Int32} (e3 : m_lk lv 3 = some (.int lx3)) (lq3 : lx3.toInt = b) {sx1 : Int32} (sq1 : sx1.toInt = v) {sx2 : Int64} {sx3 : Int64}  (hs0 : 16 ≤ li) (hk0 : (h_k h0 li).1 = 2)
    (g0 : HJ 53 0 (lv_args 0 [.ref li, .int lx3]) [] h (fun v h' => HJ 51 62 lv (v.toList ++ [.long (sx2 ||| sx3), .int sx1, .ref (h_r h0 li 2)]) h' Q))
    : HJ 51 56 lv [.long sx3, .long sx2, .int sx1, .ref (h_r h0 li 2)] h Q := by
  refine hI_lor rfl rfl ?_ -- 56
  refine hI_al (k := 0) rfl e0 rfl ?_ -- 57
  refine hI_il (k := 3) rfl e3 rfl ?_ -- 58
  refine HJ.call (j := 53) (as := [.ref li, .int lx3]) (rr := [.long (sx2 ||| sx3), .int sx1, .ref (h_r h0 li 2)]) (pc' := 62) (m_cR (kc := 1) rfl rfl (by decide +kernel) rfl rfl rfl ⟨rfl, by decide +kernel, by decide +kernel⟩ (by decide) hs0 (by rw [M.2.1]; exact hk0)) (by show 2 ≤ m_lc 53; decide +kernel) ?_ -- 59
  exact g0 
theorem r_la62 {li : Nat} {v a b : Int} (M : RX h0 h H) (e0 : m_lk lv 0 = some (.ref li)) {lx1 : Int32} (e1 : m_lk lv 1 = some (.int lx1)) (lq1 : lx1.toInt = v) {lx2 : Int32} (e2 : m_lk lv 2 = some (.int lx2)) (lq2 : lx2.toInt = a) {lx3 : Int32} (e3 : m_lk lv 3 = some (.int lx3)) (lq3 : lx3.toInt = b) {sx1 : Int32} (sq1 : sx1.toInt = v) {sx2 : Int64} {sx3 : Int64} 
    (g0 : HJ 51 63 lv [.long (sx2 ||| sx3), .int sx1, .ref (h_r h0 li 2)] h Q)
    : HJ 51 62 lv [.long sx3, .long sx2, .int sx1, .ref (h_r h0 li 2)] h Q := by
  refine hI_lor rfl rfl ?_ -- 62
  exact g0 
theorem r_sz0 {pa : Nat} {v : Int} (M : RX h0 h H) (e0 : m_lk lv 0 = some (.ref pa)) {lx1 : Int32} (e1 : m_lk lv 1 = some (.int lx1)) (lq1 : lx1.toInt = v)  (hs0 : 16 ≤ pa) (hk0 : (h_k h0 pa).1 = 4)
    (g0 : HJ 57 0 (lv_args 0 [.ref pa, .int lx1]) [] h (fun v h' => HJ 84 5 lv (v.toList ++ []) h' Q))
    : HJ 84 0 lv [] h Q := by
  refine hI_al (k := 0) rfl e0 rfl ?_ -- 0
  refine hI_il (k := 1) rfl e1 rfl ?_ -- 1
  refine HJ.call (j := 57) (as := [.ref pa, .int lx1]) (rr := []) (pc' := 5) (m_cR (kc := 3) rfl rfl (by decide +kernel) rfl rfl rfl ⟨rfl, by decide +kernel, by decide +kernel⟩ (by decide) hs0 (by rw [M.2.1]; exact hk0)) (by show 2 ≤ m_lc 57; decide +kernel) ?_ -- 2
  exact g0 
theorem r_sz5 {pa : Nat} {v z : Int} (M : RX h0 h H) (e0 : m_lk lv 0 = some (.ref pa)) {lx1 : Int32} (e1 : m_lk lv 1 = some (.int lx1)) (lq1 : lx1.toInt = v) {sx0 : Int32} (sq0 : sx0.toInt = z) (pv0 : z ≠ 0 → 0 ≤ v ∧ v ≤ 40) (hk0 : (h_k h0 pa).1 = 4) (ha0 : (h_k h0 (h_r h0 pa 3)).1 = 20) (hl0 : 41 ≤ ((h_k h0 (h_r h0 pa 3)).2 : Int))
    (g0 : ∀ x1 : Int32, x1.toInt = 0 → z = 0 → Q (some (.int x1)) h)
    (g1 : ∀ x2 : Int32, x2.toInt = H (h_r h0 pa 3) (v).toNat → z ≠ 0 → Q (some (.int x2)) h)
    : HJ 84 5 lv [.int sx0] h Q := by
  refine hM_zeq (off := 12) (t := 17) rfl sq0 (by decide) rfl (fun c5 => ?_) (fun c5 => ?_) -- 5
  · refine hM_ic (n := 0) rfl (by decide) rfl (fun x1 q1 => ?_) -- 17
    refine hI_ri rfl rfl ?_ -- 18
    exact g0 x1 q1 c5
  · refine hI_al (k := 0) rfl e0 rfl ?_ -- 8
    refine hR_gr (c := 3) (k := 3) M hk0 rfl rfl rfl rfl ?_ -- 9
    refine hI_il (k := 1) rfl e1 rfl ?_ -- 12
    refine hR_ia M ha0 lq1 (by omega) (by omega) rfl rfl (fun x2 q2 => ?_) -- 13
    have gb2 : -2147483648 ≤ H (h_r h0 pa 3) (v).toNat ∧ H (h_r h0 pa 3) (v).toNat ≤ 2147483647 := by rw [← q2]; exact g_iT _
    refine hI_go (pc' := 18) (off := 4) rfl (by decide) ?_ -- 14
    refine hI_ri rfl rfl ?_ -- 18
    exact g1 x2 q2 c5
theorem r_cr0 {pa : Nat} {v : Int} (M : RX h0 h H) (e0 : m_lk lv 0 = some (.ref pa)) {lx1 : Int32} (e1 : m_lk lv 1 = some (.int lx1)) (lq1 : lx1.toInt = v)  (hs0 : 16 ≤ pa) (hk0 : (h_k h0 pa).1 = 4)
    (g0 : HJ 84 0 (lv_args 0 [.ref pa, .int lx1]) [] h (fun v h' => HJ 83 5 lv (v.toList ++ []) h' Q))
    : HJ 83 0 lv [] h Q := by
  refine hI_al (k := 0) rfl e0 rfl ?_ -- 0
  refine hI_il (k := 1) rfl e1 rfl ?_ -- 1
  refine HJ.call (j := 84) (as := [.ref pa, .int lx1]) (rr := []) (pc' := 5) (m_cR (kc := 3) rfl rfl (by decide +kernel) rfl rfl rfl ⟨rfl, by decide +kernel, by decide +kernel⟩ (by decide) hs0 (by rw [M.2.1]; exact hk0)) (by show 2 ≤ m_lc 84; decide +kernel) ?_ -- 2
  exact g0 
theorem r_cr5 {z : Int} (M : RX h0 h H) {sx0 : Int32} (sq0 : sx0.toInt = z) 
    (g0 : HJ 82 0 (lv_args 0 [.int sx0]) [] h (fun v h' => HJ 83 8 lv (v.toList ++ []) h' Q))
    : HJ 83 5 lv [.int sx0] h Q := by
  refine hM_is0 (as := [.int sx0]) (r := []) rfl rfl (by decide +kernel) rfl rfl rfl rfl rfl ?_ -- 5
  exact g0 
theorem r_cr8 {z : Int} (M : RX h0 h H) {sx0 : Int32} (sq0 : sx0.toInt = z) 
    (g0 : Q (some (.int sx0)) h)
    : HJ 83 8 lv [.int sx0] h Q := by
  refine hI_ri rfl rfl ?_ -- 8
  exact g0 
theorem k_kof {pa ac : Nat} {T : Nat → Int} {N k : Nat} {xk : Int32} (M : RX h0 h H) (ok : ac_ok h0 pa ac) (A : ac_of H ac (h_r h0 ac 0) (h_r h0 ac 1) T N) (N40 : N ≤ 40) (hk : k < N) (qk : xk.toInt = (k : Int)) (g : ∀ x : Int32, x.toInt = T (4 * k) → Q (some (.int x)) h) : HJ 54 0 (lv_args 0 [.ref ac, .int xk]) [] h Q := by
  have a1 := A.1
  refine r_kof M rfl rfl qk (by omega) (by omega) ok.1.1 ok.2.1.1 ok.2.1.2.2 (fun _ _ c => absurd c (by omega)) (fun _ _ _ c => absurd c (by omega)) (fun x q _ _ => g x ?_)
  rw [q, Int.toNat_natCast]
  exact (A.2 k hk).1
theorem k_nof {pa ac : Nat} {T : Nat → Int} {N k i : Nat} {xk xi : Int32} (M : RX h0 h H) (ok : ac_ok h0 pa ac) (A : ac_of H ac (h_r h0 ac 0) (h_r h0 ac 1) T N) (N40 : N ≤ 40) (hk : k < N) (hi : i < 3) (qk : xk.toInt = (k : Int)) (qi : xi.toInt = (i : Int)) (g : ∀ x : Int32, x.toInt = T (4 * k + 1 + i) → Q (some (.int x)) h) : HJ 55 0 (lv_args 0 [.ref ac, .int xk, .int xi]) [] h Q := by
  have a1 := A.1
  refine r_nof M rfl rfl qk rfl qi (by omega) (by omega) (by omega) (by omega) ok.1.1 ok.2.2.1.1 ok.2.2.1.2.2 (fun _ _ c => absurd c (by omega)) (fun _ _ _ c => absurd c (by omega)) (fun _ _ _ _ c => absurd c (by omega)) (fun _ _ _ _ _ c => absurd c (by omega)) (fun x q _ _ _ _ => g x ?_)
  rw [q, show ((k : Int) * 3 + (i : Int)).toNat = 3 * k + i by omega]
  exact (A.2 k hk).2 i hi
-- lines: from which versions
theorem k_bit {v : Int} {xv : Int32} (M : RX h0 h H) (qv : xv.toInt = v) (g : Q (some (.long (bt v))) h) : HJ 52 0 (lv_args 0 [.int xv]) [] h Q := r_bit M rfl qv g
def li_ok (h : MH) (li : Nat) : Prop := ((h_k h li).1 = 2 ∧ 16 ≤ li) ∧ ((h_k h (h_r h li 0)).1 = 20 ∧ 16 ≤ h_r h li 0 ∧ (41 : Int) ≤ ((h_k h (h_r h li 0)).2 : Int)) ∧ ((h_k h (h_r h li 1)).1 = 20 ∧ 16 ≤ h_r h li 1 ∧ (41 : Int) ≤ ((h_k h (h_r h li 1)).2 : Int)) ∧ ((h_k h (h_r h li 2)).1 = 25 ∧ 16 ≤ h_r h li 2 ∧ (41 : Int) ≤ ((h_k h (h_r h li 2)).2 : Int))
theorem k_fo {li : Nat} {v : Int} {xv : Int32} (ok : li_ok h li) (qv : xv.toInt = v) (g : Q (some (.long (fo_of (h_l h (h_r h li 2)) v))) h) : HJ 53 0 (lv_args 0 [.ref li, .int xv]) [] h Q := by
  refine hI_il (k := 1) (x := xv) rfl rfl rfl ?_
  refine hM_zlt (t := 19) rfl qv (by decide) rfl (fun c => ?_) (fun c => ?_)
  · refine hI_lc (n := 0) rfl rfl ?_
    refine hI_rl rfl rfl ?_
    unfold fo_of at g
    rw [if_neg (by omega)] at g
    exact g
  · refine hI_il (k := 1) (x := xv) rfl rfl rfl ?_
    refine hM_bp (n := 41) rfl (by decide) rfl (fun x1 q1 => ?_)
    refine hM_cge (t := 19) rfl qv q1 (by decide) rfl (fun c2 => ?_) (fun c2 => ?_)
    · refine hI_lc (n := 0) rfl rfl ?_
      refine hI_rl rfl rfl ?_
      unfold fo_of at g
      rw [if_neg (by omega)] at g
      exact g
    · refine hI_al (k := 0) (x := li) rfl rfl rfl ?_
      refine hI_gr rfl rfl rfl ok.1.1 rfl ?_
      refine hI_il (k := 1) (x := xv) rfl rfl rfl ?_
      refine hI_la rfl ok.2.2.2.1 (by omega) (by have := ok.2.2.2.2.2; omega) rfl ?_
      refine hI_go (pc' := 20) rfl (by decide) ?_
      refine hI_rl rfl rfl ?_
      unfold fo_of at g
      rw [if_pos (by omega), ← qv] at g
      exact g
theorem k_lines {li : Nat} {v : Nat} {a b : Int} {xv xa xb : Int32} (M : RX h0 h H) (ok : li_ok h0 li) (n01 : h_r h0 li 0 ≠ h_r h0 li 1) (qv : xv.toInt = (v : Int)) (v1 : v ≤ 40) (qa : xa.toInt = a) (qb : xb.toInt = b) (a1 : a < (v : Int)) (b1 : b < (v : Int)) (g : ∀ (h' : MH) (H' : Nat → Nat → Int), RL h0 h' H' (fun q j => if q = h_r h0 li 2 ∧ j = v then bt v ||| fo_of (h_l h0 (h_r h0 li 2)) a ||| fo_of (h_l h0 (h_r h0 li 2)) b else h_l h0 q j) → (∀ q, q ≠ h_r h0 li 0 → q ≠ h_r h0 li 1 → H' q = H q) → H' (h_r h0 li 0) = m_u (H (h_r h0 li 0)) v a → H' (h_r h0 li 1) = m_u (H (h_r h0 li 1)) v b → Q none h') : HJ 51 0 (lv_args 0 [.ref li, .int xv, .int xa, .int xb]) [] h Q := by
  refine r_la0 M rfl rfl qv rfl qa rfl qb (by omega) (by omega) a1 b1 ok.1.1 ok.2.1.1 ok.2.1.2.2 ok.2.1.2.1 ok.2.2.1.1 ok.2.2.1.2.2 ok.2.2.1.2.1 (fun c => absurd c (by omega)) (fun _ c => absurd c (by omega)) (fun _ _ _ _ _ _ _ _ _ c => absurd c (by omega)) (fun _ _ _ _ _ _ _ _ _ c => absurd c (by omega)) (fun _ _ _ _ _ _ _ _ _ _ c => absurd c (by omega)) (fun h7 H7 f7 h10 H10 f10 M10 _ _ _ _ => ?_)
  rw [Int.toNat_natCast] at f7 f10
  have ok10 : li_ok h10 li := by
    unfold li_ok
    rw [M10.2.1, M10.2.2.1.1]
    exact ok
  have r10 : h_r h10 li 2 = h_r h0 li 2 := by rw [M10.2.2.1.1]
  have l10 : h_l h10 = h_l h0 := M10.2.2.1.2
  refine k_bit M10 qv ?_
  refine r_la51 M10 rfl rfl qv rfl qa rfl qb qv ok.1.2 ok.1.1 (k_fo ok10 qa ?_)
  refine r_la56 M10 rfl rfl qv rfl qa rfl qb qv ok.1.2 ok.1.1 (k_fo ok10 qb ?_)
  refine r_la62 M10 rfl rfl qv rfl qa rfl qb qv ?_
  refine hI_ls_ rfl ok.2.2.2.2.1 (by rw [M10.2.1]; exact ok.2.2.2.1) (by omega) (by rw [M10.2.1]; have := ok.2.2.2.2.2; omega) rfl ?_
  rw [r10, l10]
  refine hI_rv rfl rfl (g _ H10 ?_ (fun q h1 h2 => by rw [f10, m_uN _ _ _ _ h2, f7, m_uN _ _ _ _ h1]) (by rw [f10, m_uN _ _ _ _ n01, f7, m_uE]) (by rw [f10, m_uE, f7, m_uN _ _ _ _ (Ne.symm n01)]))
  have R := (RL.ofRX M10).sl (o := h_r h0 li 2) (j := xv.toInt.toNat) (x := bt v ||| fo_of (h_l h0 (h_r h0 li 2)) a ||| fo_of (h_l h0 (h_r h0 li 2)) b)
  rw [qv, Int.toNat_natCast] at R ⊢
  exact R
-- how many trees a version has
theorem k_credit {pa s : Nat} {v : Int} {sz : Nat → Nat} {xv : Int32} (M : RX h0 h H) (ok : pa_ok h0 pa) (es : H pa 11 = (s : Int)) (s40 : s ≤ 40) (Z : ∀ u : Nat, u ≤ s → H (h_r h0 pa 3) u = (sz u : Int) ∧ sz u ≤ 63) (qv : xv.toInt = v) (g : ∀ x : Int32, x.toInt = (if 0 ≤ v ∧ v ≤ (s : Int) then (p_bc (sz v.toNat) : Int) else 0) → Q (some (.int x)) h) : HJ 83 0 (lv_args 0 [.ref pa, .int xv]) [] h Q := by
  obtain ⟨z1, z2, -, z4, -⟩ := ok.2.2.2.2.2.2.1 12 (by decide)
  have n12 : pa_n 12 = 41 := rfl
  have e12 : pa_w h0 pa 12 = h_r h0 pa 3 := rfl
  rw [e12] at z1 z2 z4
  refine r_cr0 M rfl rfl qv ok.1.2.1 ok.1.1 ?_
  refine r_sz0 M rfl rfl qv ok.1.2.1 ok.1.1 (k_has M ok.1.1 qv (fun xz hz => ?_))
  have done : ∀ (xs : Int32) (n : Nat), xs.toInt = (n : Int) → n ≤ 63 → (p_bc n : Int) = (if 0 ≤ v ∧ v ≤ (s : Int) then (p_bc (sz v.toNat) : Int) else 0) → HJ 83 5 (lv_args 0 [.ref pa, .int xv]) ((some (Value.int xs)).toList ++ []) h Q := fun xs n q1 q2 q3 => r_cr5 M q1 (k_bc q1 q2 (fun w qw => r_cr8 M qw (g w (by rw [qw]; exact q3))))
  refine r_sz5 M rfl rfl qv rfl (fun c => by rcases hz with z | z <;> omega) ok.1.1 z1 (by omega) (fun x1 q1 c => ?_) (fun x2 q2 c => ?_)
  · refine done x1 0 q1 (by decide) ?_
    rw [if_neg (by rcases hz with z | z <;> omega)]
    rfl
  · have hv : 0 ≤ v ∧ v ≤ (s : Int) := by rcases hz with z | z <;> omega
    obtain ⟨u1, u2⟩ := Z v.toNat (by omega)
    refine done x2 (sz v.toNat) (q2.trans u1) u2 ?_
    rw [if_pos hv]
end
end
section
-- A RUN'S BOOKS
def bk_of (h : MH) (pa : Nat) (Y : RYt) : Prop := pr_of h pa Y ∧ (∀ k : Nat, k + 1 < ry_v Y → z_i h (h_r h pa 4) k = ry_m Y k ∧ z_i h (h_r h pa 5) k = ry_l Y k ∧ z_i h (h_r h pa 6) k = ry_pd Y k) ∧ (∀ v : Nat, v < ry_v Y → z_i h (h_r h (h_r h pa 1) 0) v = ry_a Y v ∧ z_i h (h_r h (h_r h pa 1) 1) v = ry_b Y v) ∧ fro_of (h_l h (h_r h (h_r h pa 1) 2)) Y
def pk_of (h : MH) (pa : Nat) (Y : RYt) : Prop := cs_of h (z_i h) (h_r h pa 0) (ry_s Y) ∧ z_i h pa 12 = ry_t Y ∧ bk_of h pa Y
def run_Y (h : MH) (pa a : Nat) : Prop := a = pa ∨ a = h_r h (h_r h pa 0) 4 ∨ (∃ i, i < 59 ∧ a = pa_w h pa i) ∨ a = h_r h (h_r h pa 1) 2
theorem py_run {h : MH} {pa a : Nat} (z : py_Y h pa a) : run_Y h pa a := by
  rcases z with z | z | ⟨i, hi, z⟩
  · exact Or.inl z
  · exact Or.inr (Or.inl z)
  · exact Or.inr (Or.inr (Or.inl ⟨i, by omega, z⟩))
theorem run_Ye {h h' : MH} {pa a : Nat} {Y : Nat → Prop} (ok : pa_ok h pa) (o' : nl_ok h' (h_r h pa 0)) (F : FX (h_r h pa 0) Y h h') (al : a < 16 + h_n h) (z : run_Y h' pa a) : run_Y h pa a ∨ a = h_r h (h_r h pa 0) 0 := by
  obtain ⟨okp, re, rw_⟩ := pa_FX ok o' F
  have ln : h_r h pa 1 ≠ h_r h pa 0 := fun z => by
    have := ok.2.2.2.2.1.1
    rw [z, ok.2.1.1.1] at this
    omega
  rcases z with z | z | ⟨i, hi, z⟩ | z
  · exact Or.inl (Or.inl z)
  · rw [re, (F.2.2 _ ok.2.1.1.2.2).2.1 4 (by omega)] at z
    exact Or.inl (Or.inr (Or.inl z))
  · by_cases c : i = 11
    · subst c
      have e : pa_w h' pa 11 = h_r h' (h_r h pa 0) 0 := by
        show h_r h' (h_r h' pa 0) 0 = _
        rw [re]
      rw [e] at z
      rcases F.2.1.1 0 (by decide) with f | f
      · exact Or.inr (z.trans f)
      · omega
    · rw [rw_ i hi c] at z
      exact Or.inl (Or.inr (Or.inr (Or.inl ⟨i, hi, z⟩)))
  · rw [re, (F.2.2 _ ok.2.2.2.2.1.2.2).2.1 2 (fun z => ln z.1)] at z
    exact Or.inl (Or.inr (Or.inr (Or.inr z)))
theorem FX.trans2 {nd : Nat} {Y Y' : Nat → Prop} {h h1 h2 : MH} (a : FX nd Y h h1) (b : FX nd Y' h1 h2) (s : ∀ q, q < 16 + h_n h → Y' q → Y q ∨ q = h_r h nd 0) : FX nd Y h h2 := by
  obtain ⟨a1, ⟨a2, ax⟩, a3⟩ := a
  obtain ⟨b1, ⟨b2, bx⟩, b3⟩ := b
  refine ⟨Nat.le_trans a1 b1, ⟨fun k hk => ?_, ax.trans bx⟩, fun q hq => ?_⟩
  · rcases b2 k hk with e | e
    · rw [e]
      exact a2 k hk
    · exact Or.inr (by omega)
  · obtain ⟨x1, x2, x3⟩ := a3 q hq
    obtain ⟨y1, y2, y3⟩ := b3 q (by omega)
    refine ⟨y1.trans x1, fun k hk => (y2 k hk).trans (x2 k hk), fun hn => ?_⟩
    obtain ⟨u1, u2⟩ := x3 hn
    obtain ⟨v1, v2⟩ := y3 (fun z => by
      rcases z with z | z | z | z
      · exact hn (Or.inl z)
      · rcases a2 0 (by decide) with e | e
        · exact hn (Or.inr (Or.inl (z.trans e)))
        · omega
      · rcases a2 1 (by decide) with e | e
        · exact hn (Or.inr (Or.inr (Or.inl (z.trans e))))
        · omega
      · rcases s q hq z with z | z
        · exact hn (Or.inr (Or.inr (Or.inr z)))
        · exact hn (Or.inr (Or.inl z)))
    exact ⟨fun j => (v1 j).trans (u1 j), fun j => (v2 j).trans (u2 j)⟩
-- the same, whoever holds the nodes
def FW (nd : Nat) (Y : Nat → Prop) (h h' : MH) : Prop := h_n h ≤ h_n h' ∧ (∀ k, k < 2 → h_r h' nd k = h_r h nd k ∨ 16 + h_n h ≤ h_r h' nd k) ∧ ∀ a, a < 16 + h_n h → h_k h' a = h_k h a ∧ (∀ k, ¬ (a = nd ∧ k < 2) → h_r h' a k = h_r h a k) ∧ (¬ (a = nd ∨ a = h_r h nd 0 ∨ a = h_r h nd 1 ∨ Y a) → (∀ j, z_i h' a j = z_i h a j) ∧ ∀ j, h_l h' a j = h_l h a j)
theorem FW.ofFX {nd : Nat} {Y : Nat → Prop} {h h' : MH} (F : FX nd Y h h') : FW nd Y h h' := ⟨F.1, F.2.1.1, F.2.2⟩
theorem FW.trans2 {nd : Nat} {Y Y' : Nat → Prop} {h h1 h2 : MH} (a : FW nd Y h h1) (b : FW nd Y' h1 h2) (s : ∀ q, q < 16 + h_n h → Y' q → Y q ∨ q = h_r h nd 0) : FW nd Y h h2 := by
  obtain ⟨a1, a2, a3⟩ := a
  obtain ⟨b1, b2, b3⟩ := b
  refine ⟨Nat.le_trans a1 b1, fun k hk => ?_, fun q hq => ?_⟩
  · rcases b2 k hk with e | e
    · rw [e]
      exact a2 k hk
    · exact Or.inr (by omega)
  · obtain ⟨x1, x2, x3⟩ := a3 q hq
    obtain ⟨y1, y2, y3⟩ := b3 q (by omega)
    refine ⟨y1.trans x1, fun k hk => (y2 k hk).trans (x2 k hk), fun hn => ?_⟩
    obtain ⟨u1, u2⟩ := x3 hn
    obtain ⟨v1, v2⟩ := y3 (fun z => by
      rcases z with z | z | z | z
      · exact hn (Or.inl z)
      · rcases a2 0 (by decide) with e | e
        · exact hn (Or.inr (Or.inl (z.trans e)))
        · omega
      · rcases a2 1 (by decide) with e | e
        · exact hn (Or.inr (Or.inr (Or.inl (z.trans e))))
        · omega
      · rcases s q hq z with z | z
        · exact hn (Or.inr (Or.inr (Or.inr z)))
        · exact hn (Or.inr (Or.inl z)))
    exact ⟨fun j => (v1 j).trans (u1 j), fun j => (v2 j).trans (u2 j)⟩
theorem FW.ofRL {nd : Nat} {Y : Nat → Prop} {h0 h : MH} {H : Nat → Nat → Int} {L : Nat → Nat → Int64} (M : RL h0 h H L) (e : ∀ a, ¬ (a = nd ∨ a = h_r h0 nd 0 ∨ a = h_r h0 nd 1 ∨ Y a) → (∀ j, H a j = z_i h0 a j) ∧ ∀ j, L a j = h_l h0 a j) : FW nd Y h0 h := by
  obtain ⟨m1, m2, m3, m4, m5⟩ := M
  exact ⟨by unfold h_n; rw [m1]; exact Nat.le_refl _, fun k _ => Or.inl (by rw [m3]), fun a _ => ⟨by rw [m2], fun k _ => by rw [m3], fun hn => ⟨fun j => by rw [m5]; exact (e a hn).1 j, fun j => by rw [m4]; exact (e a hn).2 j⟩⟩⟩
-- the books stand while only an act's own things change
theorem pa_li {h : MH} {pa : Nat} (ok : pa_ok h pa) : li_ok h (h_r h pa 1) ∧ h_r h (h_r h pa 1) 0 ≠ h_r h (h_r h pa 1) 1 := by
  obtain ⟨a, n, t, r, li, fr, b, c⟩ := ok
  obtain ⟨b1, b2, -, b4, -⟩ := b 16 (by decide)
  obtain ⟨d1, d2, -, d4, -⟩ := b 17 (by decide)
  have n16 : pa_n 16 = 41 := rfl
  have n17 : pa_n 17 = 41 := rfl
  have e16 : pa_w h pa 16 = h_r h (h_r h pa 1) 0 := rfl
  have e17 : pa_w h pa 17 = h_r h (h_r h pa 1) 1 := rfl
  rw [e16] at b1 b2 b4
  rw [e17] at d1 d2 d4
  exact ⟨⟨⟨li.1, li.2.1⟩, ⟨b1, b2, by omega⟩, ⟨d1, d2, by omega⟩, ⟨fr.1, fr.2.2.1, by omega⟩⟩, c 16 17 (by decide) (by decide) (by decide)⟩
theorem pa_fr {h : MH} {pa : Nat} (ok : pa_ok h pa) : (∀ i, i < 59 → h_r h (h_r h pa 1) 2 ≠ pa_w h pa i) ∧ h_r h (h_r h pa 1) 2 ≠ pa ∧ h_r h (h_r h pa 1) 2 ≠ h_r h pa 0 ∧ h_r h (h_r h pa 1) 2 ≠ h_r h (h_r h pa 0) 4 ∧ h_r h (h_r h pa 1) 2 ≠ h_r h (h_r h pa 0) 1 := by
  obtain ⟨a, n, t, r, li, fr, b, c⟩ := ok
  refine ⟨fun i hi z => ?_, fun z => ?_, fun z => ?_, fun z => ?_, fr.2.2.2.2⟩
  · have := (b i hi).1
    rw [← z, fr.1] at this
    omega
  · have := a.1
    rw [← z, fr.1] at this
    omega
  · have := n.1.1
    rw [← z, fr.1] at this
    omega
  · have := t.1
    rw [← z, fr.1] at this
    omega
theorem py_fr {h h' : MH} {pa : Nat} (ok : pa_ok h pa) (F : FX (h_r h pa 0) (py_Y h pa) h h') : ∀ j, h_l h' (h_r h (h_r h pa 1) 2) j = h_l h (h_r h (h_r h pa 1) 2) j := by
  obtain ⟨f1, f2, f3, f4, f5⟩ := pa_fr ok
  refine (F.kp (q := h_r h (h_r h pa 1) 2) ok.2.2.2.2.2.1.2.2.2.1 f3 (f1 11 (by decide)) f5 (fun z => ?_)).2.2
  rcases z with z | z | ⟨i, hi, z⟩
  · exact f2 z
  · exact f4 z
  · exact f1 i (by omega) z
theorem bk_FX {h h' : MH} {pa : Nat} {Y : RYt} (ok : pa_ok h pa) (o' : nl_ok h' (h_r h pa 0)) (F : FX (h_r h pa 0) (py_Y h pa) h h') (z11 : z_i h' pa 11 = z_i h pa 11) (B : bk_of h pa Y) : bk_of h' pa Y := by
  obtain ⟨okp, re, rw_⟩ := pa_FX ok o' F
  have ln : h_r h pa 1 ≠ h_r h pa 0 := fun z => by
    have := ok.2.2.2.2.1.1
    rw [z, ok.2.1.1.1] at this
    omega
  have rl : ∀ k, h_r h' (h_r h pa 1) k = h_r h (h_r h pa 1) k := fun k => (F.2.2 _ ok.2.2.2.2.1.2.2).2.1 k (fun z => ln z.1)
  have kp : ∀ i, i < 59 → 12 ≤ i → ∀ j, z_i h' (pa_w h pa i) j = z_i h (pa_w h pa i) j := fun i h1 h2 j => py_kp ok F h1 h2 j
  have k12 : ∀ j, z_i h' (h_r h pa 3) j = z_i h (h_r h pa 3) j := kp 12 (by decide) (by decide)
  have k13 : ∀ j, z_i h' (h_r h pa 4) j = z_i h (h_r h pa 4) j := kp 13 (by decide) (by decide)
  have k14 : ∀ j, z_i h' (h_r h pa 5) j = z_i h (h_r h pa 5) j := kp 14 (by decide) (by decide)
  have k15 : ∀ j, z_i h' (h_r h pa 6) j = z_i h (h_r h pa 6) j := kp 15 (by decide) (by decide)
  have k16 : ∀ j, z_i h' (h_r h (h_r h pa 1) 0) j = z_i h (h_r h (h_r h pa 1) 0) j := kp 16 (by decide) (by decide)
  have k17 : ∀ j, z_i h' (h_r h (h_r h pa 1) 1) j = z_i h (h_r h (h_r h pa 1) 1) j := kp 17 (by decide) (by decide)
  obtain ⟨⟨⟨p1, p2, p3⟩, p4⟩, b2, b3, b4⟩ := B
  refine ⟨⟨⟨by rw [z11]; exact p1, p2, p3⟩, fun v hv => ⟨fun q hq => ?_, ?_⟩⟩, fun k hk => ?_, fun v hv => ?_, ?_⟩
  · rw [rw_ (18 + v) (by omega) (by omega), kp (18 + v) (by omega) (by omega)]
    exact (p4 v hv).1 q hq
  · rw [re, k12]
    exact (p4 v hv).2
  · rw [re, re, re, k13, k14, k15]
    exact b2 k hk
  · rw [re, rl, rl, k16, k17]
    exact b3 v hv
  · rw [re, rl, funext (py_fr ok F)]
    exact b4
-- WHAT A RUN KEEPS, PURE
def ry_ok (Y : RYt) (k : Nat) : Prop := (ps_sh (ry_s Y) ∧ ∀ u : Nat, u < ry_v Y → hp_in (ry_s Y) (ry_h Y u)) ∧ (ry_v Y = k + 1 ∧ ps_n (ry_s Y) ≤ 378 * k ∧ 0 ≤ ry_t Y ∧ ry_t Y ≤ k) ∧ ∀ u : Nat, u < ry_v Y → (-1 ≤ ry_a Y u ∧ ry_a Y u < u) ∧ (-1 ≤ ry_b Y u ∧ ry_b Y u < u)
theorem ry_ok0 : ry_ok ry_0 0 := ⟨⟨fun v hv => absurd hv (Nat.not_lt_zero v), fun _ _ _ _ => Or.inl rfl⟩, ⟨rfl, Nat.le_refl _, Int.le_refl _, Int.le_refl _⟩, fun u hu => by
  have : u < 1 := hu
  have a : ry_a ry_0 u = -1 := rfl
  have b : ry_b ry_0 u = -1 := rfl
  omega⟩
theorem ry_kpH {Y : RYt} {k : Nat} {w v a : Int} {X : PSt × (Nat → Int) × Int} {u : Nat} (hu : u < ry_v Y) : hp6 (ry_h (ry_kp (ry_z Y) k w v a X) u) (ry_h Y u) := fun r hr => by
  show (if 6 * ry_v Y ≤ 6 * (u : Int).toNat + r ∧ 6 * (u : Int).toNat + r < 6 * ry_v Y + 6 then X.2.1 (6 * (u : Int).toNat + r - 6 * ry_v Y) else ry_r Y (6 * (u : Int).toNat + r)) = ry_r Y (6 * (u : Int).toNat + r)
  rw [if_neg (by omega)]
theorem ry_kpN {Y : RYt} {k : Nat} {w v a : Int} {X : PSt × (Nat → Int) × Int} : hp6 (ry_h (ry_kp (ry_z Y) k w v a X) (ry_v Y)) X.2.1 := fun r hr => by
  show (if 6 * ry_v Y ≤ 6 * (ry_v Y : Int).toNat + r ∧ 6 * (ry_v Y : Int).toNat + r < 6 * ry_v Y + 6 then X.2.1 (6 * (ry_v Y : Int).toNat + r - 6 * ry_v Y) else ry_r Y (6 * (ry_v Y : Int).toNat + r)) = X.2.1 r
  rw [if_pos (by omega), show 6 * (ry_v Y : Int).toNat + r - 6 * ry_v Y = r by omega]
theorem hp_inC {S : PSt} {f g : Nat → Int} (e : hp6 f g) (h : hp_in S g) : hp_in S f := fun r hr => by
  rw [e r hr]
  exact h r hr
theorem p_wsH {f g : Nat → Int} (e : hp6 f g) : p_ws f 6 = p_ws g 6 := p_wsC (f := g) (f' := f) (r := 6) (fun j hj => e j hj)
theorem ry_okS {Y : RYt} {k : Nat} {w v a b : Int} {X : PSt × (Nat → Int) × Int} (O : ry_ok Y k) (e : ry_do (ry_z Y) w v a b = some X) (w0 : w = 0 → v = -1) : ry_ok (ry_kp (ry_z Y) k w v a X) (k + 1) := by
  obtain ⟨⟨o1, o2⟩, ⟨o3, o4, o5, o6⟩, o7⟩ := O
  obtain ⟨⟨x1, x2⟩, ⟨x3, x4⟩, x5⟩ := ry_doI (Y := ry_z Y) o1 o2 e
  have nz : ps_n (ry_s (ry_z Y)) = ps_n (ry_s Y) := rfl
  have tz : ry_t (ry_z Y) = ry_t Y := rfl
  have x3' : ps_ex (ry_s Y) X.1 := x3
  have par : (-1 ≤ (if w = 0 then -1 else v) ∧ (if w = 0 then -1 else v) < (ry_v Y : Int)) ∧ (-1 ≤ (if w = 2 then a else -1) ∧ (if w = 2 then a else -1) < (ry_v Y : Int)) := by
    by_cases c : w = 0
    · rw [if_pos c, if_neg (by omega)]
      omega
    · rw [if_neg c]
      cases is : ry_is (ry_z Y) v with
      | false =>
        rw [ry_doF c is] at e
        cases e
      | true =>
        have iv : 0 ≤ v ∧ v < (ry_v Y : Int) := ry_isV is
        by_cases c2 : w = 2
        · rw [if_pos c2]
          rw [ry_do2 c2 is] at e
          by_cases c3 : ry_is (ry_z Y) a = true ∧ p_ws (ry_h (ry_z Y) v) 6 + p_ws (ry_h (ry_z Y) a) 6 ≤ 63
          · have ia : 0 ≤ a ∧ a < (ry_v Y : Int) := ry_isV c3.1
            omega
          · rw [if_neg c3] at e
            cases e
        · rw [if_neg c2]
          omega
  refine ⟨⟨x1, fun u hu => ?_⟩, ⟨?_, ?_, ?_, ?_⟩, fun u hu => ?_⟩
  · have hu : u < ry_v Y + 1 := hu
    by_cases c : u = ry_v Y
    · rw [c]
      exact hp_inC ry_kpN x2
    · exact hp_inC (ry_kpH (by omega)) (hp_inE x3' (o2 u (by omega)))
  · show ry_v Y + 1 = k + 1 + 1
    omega
  · show ps_n X.1 ≤ _
    omega
  · show 0 ≤ X.2.2
    rcases x5 with z | z <;> omega
  · show X.2.2 ≤ ((k + 1 : Nat) : Int)
    rcases x5 with z | z <;> omega
  · have hu : u < ry_v Y + 1 := hu
    show (-1 ≤ m_u (ry_a Y) (ry_v Y) (if w = 0 then -1 else v) u ∧ m_u (ry_a Y) (ry_v Y) (if w = 0 then -1 else v) u < (u : Int)) ∧ (-1 ≤ m_u (ry_b Y) (ry_v Y) (if w = 2 then a else -1) u ∧ m_u (ry_b Y) (ry_v Y) (if w = 2 then a else -1) u < (u : Int))
    by_cases c : u = ry_v Y
    · rw [c, m_uE, m_uE]
      exact par
    · rw [m_uN _ _ _ _ c, m_uN _ _ _ _ c]
      exact o7 u (by omega)
-- what is paid, told the same of the longer run
theorem cr_kp {Y : RYt} {k : Nat} {w v a : Int} {X : PSt × (Nat → Int) × Int} {u : Int} (h0 : -1 ≤ u) (h1 : u < (ry_v Y : Int)) : cr_of (ry_kp (ry_z Y) k w v a X) u = cr_of Y u := by
  unfold cr_of
  by_cases c : u = -1
  · rw [if_pos c, if_pos c]
  · rw [if_neg c, if_neg c, show u = ((u.toNat : Nat) : Int) by omega, p_wsH (ry_kpH (by omega))]
theorem pd_kp {Y : RYt} {k q : Nat} {w v a : Int} {X : PSt × (Nat → Int) × Int} (O : ry_ok Y k) (hq : q < k) : ry_pd (ry_kp (ry_z Y) k w v a X) q = ry_pd Y q := by
  obtain ⟨-, ⟨o3, -⟩, o7⟩ := O
  obtain ⟨⟨a0, a1⟩, b0, b1⟩ := o7 (q + 1) (by omega)
  unfold ry_pd
  have e1 : ry_l (ry_kp (ry_z Y) k w v a X) q = ry_l Y q := m_uN _ _ _ _ (by omega)
  have e2 : ry_a (ry_kp (ry_z Y) k w v a X) (q + 1) = ry_a Y (q + 1) := m_uN _ _ _ _ (show q + 1 ≠ ry_v Y by omega)
  have e3 : ry_b (ry_kp (ry_z Y) k w v a X) (q + 1) = ry_b Y (q + 1) := m_uN _ _ _ _ (show q + 1 ≠ ry_v Y by omega)
  rw [e1, e2, e3, cr_kp a0 (by omega), cr_kp b0 (by omega), p_wsH (ry_kpH (Y := Y) (u := q + 1) (by omega))]
end
section
-- AN ACT KEPT, THE CLASS'S
section
variable {lv : List (Nat × Value)} {Q : Option Value → MH → Prop} {h0 h : MH} {H : Nat → Nat → Int}
theorem r_ka0 {pa ac : Nat} {k n : Int} (M : RX h0 h H) (e0 : m_lk lv 0 = some (.ref pa)) (e1 : m_lk lv 1 = some (.ref ac)) {lx2 : Int32} (e2 : m_lk lv 2 = some (.int lx2)) (lq2 : lx2.toInt = k) {lx3 : Int32} (e3 : m_lk lv 3 = some (.int lx3)) (lq3 : lx3.toInt = n)  (hs0 : 16 ≤ ac) (hk0 : (h_k h0 ac).1 = 1)
    (g0 : ∀ x1 : Int32, x1.toInt = 0 → HJ 55 0 (lv_args 0 [.ref ac, .int lx2, .int x1]) [] h (fun v h' => HJ 81 6 lv (v.toList ++ []) h' Q))
    : HJ 81 0 lv [] h Q := by
  refine hI_al (k := 1) rfl e1 rfl ?_ -- 0
  refine hI_il (k := 2) rfl e2 rfl ?_ -- 1
  refine hM_ic (n := 0) rfl (by decide) rfl (fun x1 q1 => ?_) -- 2
  refine HJ.call (j := 55) (as := [.ref ac, .int lx2, .int x1]) (rr := []) (pc' := 6) (m_cR (kc := 0) rfl rfl (by decide +kernel) rfl rfl rfl ⟨rfl, by decide +kernel, by decide +kernel⟩ (by decide) hs0 (by rw [M.2.1]; exact hk0)) (by show 3 ≤ m_lc 55; decide +kernel) ?_ -- 3
  exact g0 x1 q1
theorem r_ka6 {pa ac : Nat} {k n a : Int} (M : RX h0 h H) (e0 : m_lk lv 0 = some (.ref pa)) (e1 : m_lk lv 1 = some (.ref ac)) {lx2 : Int32} (e2 : m_lk lv 2 = some (.int lx2)) (lq2 : lx2.toInt = k) {lx3 : Int32} (e3 : m_lk lv 3 = some (.int lx3)) (lq3 : lx3.toInt = n) {sx0 : Int32} (sq0 : sx0.toInt = a)  (hs0 : 16 ≤ ac) (hk0 : (h_k h0 ac).1 = 1)
    (g0 : ∀ lv1 : List (Nat × Value), m_lk lv1 0 = some (.ref pa) → m_lk lv1 1 = some (.ref ac) → m_lk lv1 2 = some (.int lx2) → m_lk lv1 3 = some (.int lx3) → m_lk lv1 4 = some (.int sx0) → HJ 54 0 (lv_args 0 [.ref ac, .int lx2]) [] h (fun v h' => HJ 81 13 lv1 (v.toList ++ []) h' Q))
    : HJ 81 6 lv [.int sx0] h Q := by
  refine hM_si2 (k := 4) rfl (by decide +kernel) rfl (fun lv1 e1_4 u1 => ?_) -- 6
  have e1_0 := u1 0 _ (by decide) (Or.inl rfl) e0
  have e1_1 := u1 1 _ (by decide) (Or.inl rfl) e1
  have e1_2 := u1 2 _ (by decide) (Or.inl rfl) e2
  have e1_3 := u1 3 _ (by decide) (Or.inl rfl) e3
  refine hI_al (k := 1) rfl e1_1 rfl ?_ -- 8
  refine hI_il (k := 2) rfl e1_2 rfl ?_ -- 9
  refine HJ.call (j := 54) (as := [.ref ac, .int lx2]) (rr := []) (pc' := 13) (m_cR (kc := 0) rfl rfl (by decide +kernel) rfl rfl rfl ⟨rfl, by decide +kernel, by decide +kernel⟩ (by decide) hs0 (by rw [M.2.1]; exact hk0)) (by show 2 ≤ m_lc 54; decide +kernel) ?_ -- 10
  exact g0 lv1 e1_0 e1_1 e1_2 e1_3 e1_4
theorem r_ka13 {pa ac : Nat} {k n a w : Int} (M : RX h0 h H) (e0 : m_lk lv 0 = some (.ref pa)) (e1 : m_lk lv 1 = some (.ref ac)) {lx2 : Int32} (e2 : m_lk lv 2 = some (.int lx2)) (lq2 : lx2.toInt = k) {lx3 : Int32} (e3 : m_lk lv 3 = some (.int lx3)) (lq3 : lx3.toInt = n) {lx4 : Int32} (e4 : m_lk lv 4 = some (.int lx4)) (lq4 : lx4.toInt = a) {sx0 : Int32} (sq0 : sx0.toInt = w)  (hs0 : 16 ≤ ac) (hk0 : (h_k h0 ac).1 = 1)
    (g0 : ∀ x2 : Int32, x2.toInt = (-1) → ∀ lv3 : List (Nat × Value), m_lk lv3 0 = some (.ref pa) → m_lk lv3 1 = some (.ref ac) → m_lk lv3 2 = some (.int lx2) → m_lk lv3 3 = some (.int lx3) → m_lk lv3 4 = some (.int lx4) → m_lk lv3 5 = some (.int x2) → w ≠ 2 → HJ 81 29 lv3 [] h Q)
    (g1 : ∀ x4 : Int32, x4.toInt = 1 → w = 2 → HJ 55 0 (lv_args 0 [.ref ac, .int lx2, .int x4]) [] h (fun v h' => HJ 81 23 lv (v.toList ++ []) h' Q))
    : HJ 81 13 lv [.int sx0] h Q := by
  refine hM_ic (n := 2) rfl (by decide) rfl (fun x1 q1 => ?_) -- 13
  refine hM_cne (off := 12) (t := 26) rfl sq0 q1 (by decide) rfl (fun c14 => ?_) (fun c14 => ?_) -- 14
  · refine hM_ic (n := (-1)) rfl (by decide) rfl (fun x2 q2 => ?_) -- 26
    refine hM_si2 (k := 5) rfl (by decide +kernel) rfl (fun lv3 e3_5 u3 => ?_) -- 27
    have e3_0 := u3 0 _ (by decide) (Or.inl rfl) e0
    have e3_1 := u3 1 _ (by decide) (Or.inl rfl) e1
    have e3_2 := u3 2 _ (by decide) (Or.inl rfl) e2
    have e3_3 := u3 3 _ (by decide) (Or.inl rfl) e3
    have e3_4 := u3 4 _ (by decide) (Or.inl rfl) e4
    exact g0 x2 q2 lv3 e3_0 e3_1 e3_2 e3_3 e3_4 e3_5 c14
  · refine hI_al (k := 1) rfl e1 rfl ?_ -- 17
    refine hI_il (k := 2) rfl e2 rfl ?_ -- 18
    refine hM_ic (n := 1) rfl (by decide) rfl (fun x4 q4 => ?_) -- 19
    refine HJ.call (j := 55) (as := [.ref ac, .int lx2, .int x4]) (rr := []) (pc' := 23) (m_cR (kc := 0) rfl rfl (by decide +kernel) rfl rfl rfl ⟨rfl, by decide +kernel, by decide +kernel⟩ (by decide) hs0 (by rw [M.2.1]; exact hk0)) (by show 3 ≤ m_lc 55; decide +kernel) ?_ -- 20
    exact g1 x4 q4 c14
theorem r_ka23 {pa ac : Nat} {k n a b : Int} (M : RX h0 h H) (e0 : m_lk lv 0 = some (.ref pa)) (e1 : m_lk lv 1 = some (.ref ac)) {lx2 : Int32} (e2 : m_lk lv 2 = some (.int lx2)) (lq2 : lx2.toInt = k) {lx3 : Int32} (e3 : m_lk lv 3 = some (.int lx3)) (lq3 : lx3.toInt = n) {lx4 : Int32} (e4 : m_lk lv 4 = some (.int lx4)) (lq4 : lx4.toInt = a) {sx0 : Int32} (sq0 : sx0.toInt = b) 
    (g0 : ∀ lv1 : List (Nat × Value), m_lk lv1 0 = some (.ref pa) → m_lk lv1 1 = some (.ref ac) → m_lk lv1 2 = some (.int lx2) → m_lk lv1 3 = some (.int lx3) → m_lk lv1 4 = some (.int lx4) → m_lk lv1 5 = some (.int sx0) → HJ 81 29 lv1 [] h Q)
    : HJ 81 23 lv [.int sx0] h Q := by
  refine hI_go (pc' := 27) (off := 4) rfl (by decide) ?_ -- 23
  refine hM_si2 (k := 5) rfl (by decide +kernel) rfl (fun lv1 e1_5 u1 => ?_) -- 27
  have e1_0 := u1 0 _ (by decide) (Or.inl rfl) e0
  have e1_1 := u1 1 _ (by decide) (Or.inl rfl) e1
  have e1_2 := u1 2 _ (by decide) (Or.inl rfl) e2
  have e1_3 := u1 3 _ (by decide) (Or.inl rfl) e3
  have e1_4 := u1 4 _ (by decide) (Or.inl rfl) e4
  exact g0 lv1 e1_0 e1_1 e1_2 e1_3 e1_4 e1_5
theorem r_ka29 {pa ac : Nat} {k n a b : Int} (M : RX h0 h H) (e0 : m_lk lv 0 = some (.ref pa)) (e1 : m_lk lv 1 = some (.ref ac)) {lx2 : Int32} (e2 : m_lk lv 2 = some (.int lx2)) (lq2 : lx2.toInt = k) {lx3 : Int32} (e3 : m_lk lv 3 = some (.int lx3)) (lq3 : lx3.toInt = n) {lx4 : Int32} (e4 : m_lk lv 4 = some (.int lx4)) (lq4 : lx4.toInt = a) {lx5 : Int32} (e5 : m_lk lv 5 = some (.int lx5)) (lq5 : lx5.toInt = b) (pk0 : 0 ≤ k) (pk1 : k ≤ 39) (pn0 : 0 ≤ n) (pn1 : n ≤ 16000) (pm0 : 0 ≤ H (h_r h0 pa 0) 5) (pm1 : H (h_r h0 pa 0) 5 ≤ 16000) (ne4 : AN (h_r h0 pa 4) (pa)) (ne5 : AN (h_r h0 pa 5) (pa)) (neN4 : AN (h_r h0 pa 0) (h_r h0 pa 4)) (neN5 : AN (h_r h0 pa 0) (h_r h0 pa 5)) (ne45 : AN (h_r h0 pa 4) (h_r h0 pa 5)) (hk0 : (h_k h0 pa).1 = 4) (hk1 : (h_k h0 (h_r h0 pa 0)).1 = 3) (ha0 : (h_k h0 (h_r h0 pa 4)).1 = 20) (hl0 : 40 ≤ ((h_k h0 (h_r h0 pa 4)).2 : Int)) (hs0 : 16 ≤ h_r h0 pa 4) (ha1 : (h_k h0 (h_r h0 pa 5)).1 = 20) (hl1 : 40 ≤ ((h_k h0 (h_r h0 pa 5)).2 : Int)) (hs1 : 16 ≤ h_r h0 pa 5) (hs2 : 16 ≤ pa)
    (g0 : ∀ h3 : MH, ∀ H3 : Nat → Nat → Int, H3 = m_u H (h_r h0 pa 4) (m_u (H (h_r h0 pa 4)) (k).toNat ((H (h_r h0 pa 0) 5) - n)) → ∀ h5 : MH, ∀ H5 : Nat → Nat → Int, H5 = m_u H3 (h_r h0 pa 5) (m_u (H3 (h_r h0 pa 5)) (k).toNat (H (h_r h0 pa 0) 6)) → ∀ x6 : Int32, x6.toInt = (H (h_r h0 pa 0) 6) → RX h0 h5 H5 → HJ 50 0 (lv_args 0 [.ref pa]) [] h5 (fun v h' => HJ 81 72 lv (v.toList ++ [.int x6, .int lx2, .ref (h_r h0 pa 6)]) h' Q))
    : HJ 81 29 lv [] h Q := by
  refine hI_al (k := 0) rfl e0 rfl ?_ -- 29
  refine hR_gr (c := 3) (k := 4) M hk0 rfl rfl rfl rfl ?_ -- 30
  refine hI_il (k := 2) rfl e2 rfl ?_ -- 33
  refine hI_al (k := 0) rfl e0 rfl ?_ -- 34
  refine hR_gr (c := 3) (k := 0) M hk0 rfl rfl rfl rfl ?_ -- 35
  refine hR_gi (c := 2) (k := 5) M hk1 rfl rfl rfl rfl (fun x1 q1 => ?_) -- 38
  have gb1 : -2147483648 ≤ H (h_r h0 pa 0) 5 ∧ H (h_r h0 pa 0) 5 ≤ 2147483647 := by rw [← q1]; exact g_iT _
  refine hI_il (k := 3) rfl e3 rfl ?_ -- 41
  refine hM_sub rfl q1 lq3 (by omega) (by omega) rfl (fun x2 q2 => ?_) -- 42
  refine hR_is M hs0 ha0 lq2 q2 (by omega) (by omega) rfl rfl (fun h3 H3 f3 M3 => ?_) -- 43
  refine hI_al (k := 0) rfl e0 rfl ?_ -- 44
  refine hR_gr (c := 3) (k := 5) M3 hk0 rfl rfl rfl rfl ?_ -- 45
  refine hI_il (k := 2) rfl e2 rfl ?_ -- 48
  refine hI_al (k := 0) rfl e0 rfl ?_ -- 49
  refine hR_gr (c := 3) (k := 0) M3 hk0 rfl rfl rfl rfl ?_ -- 50
  refine hR_gi (c := 2) (k := 6) M3 hk1 rfl rfl rfl rfl (fun x4 q4 => ?_) -- 53
  rw [show H3 (h_r h0 pa 0) 6 = H (h_r h0 pa 0) 6 by rw [f3, m_uN _ _ _ _ neN4]] at q4
  have gb4 : -2147483648 ≤ H (h_r h0 pa 0) 6 ∧ H (h_r h0 pa 0) 6 ≤ 2147483647 := by rw [← q4]; exact g_iT _
  refine hR_is M3 hs1 ha1 lq2 q4 (by omega) (by omega) rfl rfl (fun h5 H5 f5 M5 => ?_) -- 56
  refine hI_al (k := 0) rfl e0 rfl ?_ -- 57
  refine hR_gr (c := 3) (k := 6) M5 hk0 rfl rfl rfl rfl ?_ -- 58
  refine hI_il (k := 2) rfl e2 rfl ?_ -- 61
  refine hI_al (k := 0) rfl e0 rfl ?_ -- 62
  refine hR_gr (c := 3) (k := 5) M5 hk0 rfl rfl rfl rfl ?_ -- 63
  refine hI_il (k := 2) rfl e2 rfl ?_ -- 66
  refine hR_ia M5 ha1 lq2 (by omega) (by omega) rfl rfl (fun x6 q6 => ?_) -- 67
  rw [show H5 (h_r h0 pa 5) (k).toNat = (H (h_r h0 pa 0) 6) by rw [f5, m_uE, m_uE]] at q6
  have gb6 : -2147483648 ≤ (H (h_r h0 pa 0) 6) ∧ (H (h_r h0 pa 0) 6) ≤ 2147483647 := by rw [← q6]; exact g_iT _
  refine hI_al (k := 0) rfl e0 rfl ?_ -- 68
  refine HJ.call (j := 50) (as := [.ref pa]) (rr := [.int x6, .int lx2, .ref (h_r h0 pa 6)]) (pc' := 72) (m_cR (kc := 3) rfl rfl (by decide +kernel) rfl rfl rfl ⟨rfl, by decide +kernel, by decide +kernel⟩ (by decide) hs2 (by rw [M5.2.1]; exact hk0)) (by show 1 ≤ m_lc 50; decide +kernel) ?_ -- 69
  exact g0 h3 H3 f3 h5 H5 f5 x6 q6 M5
theorem r_ka72 {pa ac : Nat} {k n a b l s : Int} (M : RX h0 h H) (e0 : m_lk lv 0 = some (.ref pa)) (e1 : m_lk lv 1 = some (.ref ac)) {lx2 : Int32} (e2 : m_lk lv 2 = some (.int lx2)) (lq2 : lx2.toInt = k) {lx3 : Int32} (e3 : m_lk lv 3 = some (.int lx3)) (lq3 : lx3.toInt = n) {lx4 : Int32} (e4 : m_lk lv 4 = some (.int lx4)) (lq4 : lx4.toInt = a) {lx5 : Int32} (e5 : m_lk lv 5 = some (.int lx5)) (lq5 : lx5.toInt = b) {sx1 : Int32} (sq1 : sx1.toInt = k) {sx2 : Int32} (sq2 : sx2.toInt = l) {sx3 : Int32} (sq3 : sx3.toInt = s) 
    (g0 : HJ 82 0 (lv_args 0 [.int sx3]) [] h (fun v h' => HJ 81 75 lv (v.toList ++ [.int sx2, .int sx1, .ref (h_r h0 pa 6)]) h' Q))
    : HJ 81 72 lv [.int sx3, .int sx2, .int sx1, .ref (h_r h0 pa 6)] h Q := by
  refine hM_is0 (as := [.int sx3]) (r := [.int sx2, .int sx1, .ref (h_r h0 pa 6)]) rfl rfl (by decide +kernel) rfl rfl rfl rfl rfl ?_ -- 72
  exact g0 
theorem r_ka75 {pa ac : Nat} {k n a b l c : Int} (M : RX h0 h H) (e0 : m_lk lv 0 = some (.ref pa)) (e1 : m_lk lv 1 = some (.ref ac)) {lx2 : Int32} (e2 : m_lk lv 2 = some (.int lx2)) (lq2 : lx2.toInt = k) {lx3 : Int32} (e3 : m_lk lv 3 = some (.int lx3)) (lq3 : lx3.toInt = n) {lx4 : Int32} (e4 : m_lk lv 4 = some (.int lx4)) (lq4 : lx4.toInt = a) {lx5 : Int32} (e5 : m_lk lv 5 = some (.int lx5)) (lq5 : lx5.toInt = b) {sx1 : Int32} (sq1 : sx1.toInt = k) {sx2 : Int32} (sq2 : sx2.toInt = l) {sx3 : Int32} (sq3 : sx3.toInt = c) (pl0 : 0 ≤ l) (pl1 : l ≤ 16000) (pc0 : 0 ≤ c) (pc1 : c ≤ 6) (hs0 : 16 ≤ pa) (hk0 : (h_k h0 pa).1 = 4)
    (g0 : ∀ x1 : Int32, x1.toInt = l + c → HJ 83 0 (lv_args 0 [.ref pa, .int lx4]) [] h (fun v h' => HJ 81 82 lv (v.toList ++ [.int x1, .int sx1, .ref (h_r h0 pa 6)]) h' Q))
    : HJ 81 75 lv [.int sx3, .int sx2, .int sx1, .ref (h_r h0 pa 6)] h Q := by
  refine hM_add rfl sq2 sq3 (by omega) (by omega) rfl (fun x1 q1 => ?_) -- 75
  refine hI_al (k := 0) rfl e0 rfl ?_ -- 76
  refine hI_il2 (k := 4) rfl e4 rfl ?_ -- 77
  refine HJ.call (j := 83) (as := [.ref pa, .int lx4]) (rr := [.int x1, .int sx1, .ref (h_r h0 pa 6)]) (pc' := 82) (m_cR (kc := 3) rfl rfl (by decide +kernel) rfl rfl rfl ⟨rfl, by decide +kernel, by decide +kernel⟩ (by decide) hs0 (by rw [M.2.1]; exact hk0)) (by show 2 ≤ m_lc 83; decide +kernel) ?_ -- 79
  exact g0 x1 q1
theorem r_ka82 {pa ac : Nat} {k n a b m c : Int} (M : RX h0 h H) (e0 : m_lk lv 0 = some (.ref pa)) (e1 : m_lk lv 1 = some (.ref ac)) {lx2 : Int32} (e2 : m_lk lv 2 = some (.int lx2)) (lq2 : lx2.toInt = k) {lx3 : Int32} (e3 : m_lk lv 3 = some (.int lx3)) (lq3 : lx3.toInt = n) {lx4 : Int32} (e4 : m_lk lv 4 = some (.int lx4)) (lq4 : lx4.toInt = a) {lx5 : Int32} (e5 : m_lk lv 5 = some (.int lx5)) (lq5 : lx5.toInt = b) {sx1 : Int32} (sq1 : sx1.toInt = k) {sx2 : Int32} (sq2 : sx2.toInt = m) {sx3 : Int32} (sq3 : sx3.toInt = c) (pm0 : 0 ≤ m) (pm1 : m ≤ 17000) (pc0 : 0 ≤ c) (pc1 : c ≤ 6) (hs0 : 16 ≤ pa) (hk0 : (h_k h0 pa).1 = 4)
    (g0 : ∀ x1 : Int32, x1.toInt = m - c → HJ 83 0 (lv_args 0 [.ref pa, .int lx5]) [] h (fun v h' => HJ 81 89 lv (v.toList ++ [.int x1, .int sx1, .ref (h_r h0 pa 6)]) h' Q))
    : HJ 81 82 lv [.int sx3, .int sx2, .int sx1, .ref (h_r h0 pa 6)] h Q := by
  refine hM_sub rfl sq2 sq3 (by omega) (by omega) rfl (fun x1 q1 => ?_) -- 82
  refine hI_al (k := 0) rfl e0 rfl ?_ -- 83
  refine hI_il2 (k := 5) rfl e5 rfl ?_ -- 84
  refine HJ.call (j := 83) (as := [.ref pa, .int lx5]) (rr := [.int x1, .int sx1, .ref (h_r h0 pa 6)]) (pc' := 89) (m_cR (kc := 3) rfl rfl (by decide +kernel) rfl rfl rfl ⟨rfl, by decide +kernel, by decide +kernel⟩ (by decide) hs0 (by rw [M.2.1]; exact hk0)) (by show 2 ≤ m_lc 83; decide +kernel) ?_ -- 86
  exact g0 x1 q1
theorem r_ka89 {pa ac : Nat} {k n a b m c : Int} (M : RX h0 h H) (e0 : m_lk lv 0 = some (.ref pa)) (e1 : m_lk lv 1 = some (.ref ac)) {lx2 : Int32} (e2 : m_lk lv 2 = some (.int lx2)) (lq2 : lx2.toInt = k) {lx3 : Int32} (e3 : m_lk lv 3 = some (.int lx3)) (lq3 : lx3.toInt = n) {lx4 : Int32} (e4 : m_lk lv 4 = some (.int lx4)) (lq4 : lx4.toInt = a) {lx5 : Int32} (e5 : m_lk lv 5 = some (.int lx5)) (lq5 : lx5.toInt = b) {sx1 : Int32} (sq1 : sx1.toInt = k) {sx2 : Int32} (sq2 : sx2.toInt = m) {sx3 : Int32} (sq3 : sx3.toInt = c) (pm0 : -10 ≤ m) (pm1 : m ≤ 17000) (pc0 : 0 ≤ c) (pc1 : c ≤ 6) (pk0 : 0 ≤ k) (pk1 : k ≤ 39) (ha0 : (h_k h0 (h_r h0 pa 6)).1 = 20) (hl0 : 40 ≤ ((h_k h0 (h_r h0 pa 6)).2 : Int)) (hs0 : 16 ≤ h_r h0 pa 6) (hk0 : (h_k h0 pa).1 = 4) (hs1 : 16 ≤ pa)
    (g0 : ∀ h2 : MH, ∀ H2 : Nat → Nat → Int, H2 = m_u H (h_r h0 pa 6) (m_u (H (h_r h0 pa 6)) (k).toNat (m - c)) → ∀ h5 : MH, ∀ H5 : Nat → Nat → Int, H5 = m_u H2 pa (m_u (H2 pa) 11 (k + 1)) → RX h0 h5 H5 → HJ 49 0 (lv_args 0 [.ref pa]) [] h5 (fun v h' => HJ 81 102 lv (v.toList ++ []) h' Q))
    : HJ 81 89 lv [.int sx3, .int sx2, .int sx1, .ref (h_r h0 pa 6)] h Q := by
  refine hM_sub rfl sq2 sq3 (by omega) (by omega) rfl (fun x1 q1 => ?_) -- 89
  refine hR_is M hs0 ha0 sq1 q1 (by omega) (by omega) rfl rfl (fun h2 H2 f2 M2 => ?_) -- 90
  refine hI_al (k := 0) rfl e0 rfl ?_ -- 91
  refine hI_il (k := 2) rfl e2 rfl ?_ -- 92
  refine hM_ic (n := 1) rfl (by decide) rfl (fun x3 q3 => ?_) -- 93
  refine hM_add rfl lq2 q3 (by omega) (by omega) rfl (fun x4 q4 => ?_) -- 94
  refine hR_pi (c := 3) (k := 11) M2 hk0 rfl rfl ⟨by decide, by decide +kernel, rfl⟩ q4 rfl (fun h5 H5 f5 M5 => ?_) -- 95
  refine hI_al (k := 0) rfl e0 rfl ?_ -- 98
  refine HJ.call (j := 49) (as := [.ref pa]) (rr := []) (pc' := 102) (m_cR (kc := 3) rfl rfl (by decide +kernel) rfl rfl rfl ⟨rfl, by decide +kernel, by decide +kernel⟩ (by decide) hs1 (by rw [M5.2.1]; exact hk0)) (by show 1 ≤ m_lc 49; decide +kernel) ?_ -- 99
  exact g0 h2 H2 f2 h5 H5 f5 M5
theorem r_ka102 {pa ac : Nat} {k n a b : Int} (M : RX h0 h H) (e0 : m_lk lv 0 = some (.ref pa)) (e1 : m_lk lv 1 = some (.ref ac)) {lx2 : Int32} (e2 : m_lk lv 2 = some (.int lx2)) (lq2 : lx2.toInt = k) {lx3 : Int32} (e3 : m_lk lv 3 = some (.int lx3)) (lq3 : lx3.toInt = n) {lx4 : Int32} (e4 : m_lk lv 4 = some (.int lx4)) (lq4 : lx4.toInt = a) {lx5 : Int32} (e5 : m_lk lv 5 = some (.int lx5)) (lq5 : lx5.toInt = b)  (hk0 : (h_k h0 pa).1 = 4) (hs0 : 16 ≤ h_r h0 pa 1) (hk1 : (h_k h0 (h_r h0 pa 1)).1 = 2)
    (g0 : ∀ x1 : Int32, x1.toInt = H pa 11 → HJ 51 0 (lv_args 0 [.ref (h_r h0 pa 1), .int x1, .int lx4, .int lx5]) [] h (fun v h' => HJ 81 117 lv (v.toList ++ []) h' Q))
    : HJ 81 102 lv [] h Q := by
  refine hI_al (k := 0) rfl e0 rfl ?_ -- 102
  refine hR_gr (c := 3) (k := 1) M hk0 rfl rfl rfl rfl ?_ -- 103
  refine hI_al (k := 0) rfl e0 rfl ?_ -- 106
  refine hR_gi (c := 3) (k := 11) M hk0 rfl rfl rfl rfl (fun x1 q1 => ?_) -- 107
  have gb1 : -2147483648 ≤ H pa 11 ∧ H pa 11 ≤ 2147483647 := by rw [← q1]; exact g_iT _
  refine hI_il2 (k := 4) rfl e4 rfl ?_ -- 110
  refine hI_il2 (k := 5) rfl e5 rfl ?_ -- 112
  refine HJ.call (j := 51) (as := [.ref (h_r h0 pa 1), .int x1, .int lx4, .int lx5]) (rr := []) (pc' := 117) (m_cR (kc := 1) rfl rfl (by decide +kernel) rfl rfl rfl ⟨rfl, by decide +kernel, by decide +kernel⟩ (by decide) hs0 (by rw [M.2.1]; exact hk1)) (by show 4 ≤ m_lc 51; decide +kernel) ?_ -- 114
  exact g0 x1 q1
theorem r_ka117 {pa : Nat} (M : RX h0 h H)  
    (g0 : Q none h)
    : HJ 81 117 lv [] h Q := by
  refine hI_rv rfl rfl ?_
  exact g0 
theorem p_bcL : ∀ n : Nat, n ≤ 63 → p_bc n ≤ 6 := fun n _ => by
  unfold p_bc
  omega
-- from the books on: v, b2 what the act names
theorem k_ka29 {pa ac k : Nat} {Y : RYt} {w_ v a b2 : Int} {X : PSt × (Nat → Int) × Int} {xk xn xv xb : Int32} (ok : pa_ok h pa) (bk : bk_of h pa Y) (O : ry_ok Y k) (k39 : k ≤ 39) (I : cs_of h (z_i h) (h_r h pa 0) X.1) (eh : hp6 (z_i h (h_r h pa 7)) X.2.1) (et : z_i h pa 12 = X.2.2) (nX : ps_n (ry_s Y) ≤ ps_n X.1) (par : -1 ≤ v ∧ v < (ry_v Y : Int)) (parb : -1 ≤ b2 ∧ b2 < (ry_v Y : Int)) (ev : v = (if w_ = 0 then -1 else v)) (eb : b2 = (if w_ = 2 then a else -1)) (qk : xk.toInt = (k : Int)) (qn : xn.toInt = (ps_n (ry_s Y) : Int)) (qv : xv.toInt = v) (qb : xb.toInt = b2) (e0 : m_lk lv 0 = some (.ref pa)) (e1 : m_lk lv 1 = some (.ref ac)) (e2 : m_lk lv 2 = some (.int xk)) (e3 : m_lk lv 3 = some (.int xn)) (e4 : m_lk lv 4 = some (.int xv)) (e5 : m_lk lv 5 = some (.int xb)) (g : ∀ h' : MH, nl_ok h' (h_r h pa 0) → pk_of h' pa (ry_kp (ry_z Y) k w_ v a X) → FX (h_r h pa 0) (run_Y h pa) h h' → (∀ q, q ≠ 11 → z_i h' pa q = z_i h pa q) → Q none h') : HJ 81 29 lv [] h Q := by
  have nx := pa_nx ok
  have c := ok.2.2.2.2.2.2.2
  have b := ok.2.2.2.2.2.2.1
  obtain ⟨⟨⟨P1, P2, P3⟩, P4⟩, B2, B3, B4⟩ := bk
  obtain ⟨O1, ⟨O3, O4, O5, O6⟩, O7⟩ := O
  have i5 : z_i h (h_r h pa 0) 5 = (ps_n X.1 : Int) := I.1
  have i6 : z_i h (h_r h pa 0) 6 = ps_l X.1 := I.2.1
  have i3 := I.2.2.1
  have i4 := I.2.2.2.1
  -- the rows, by name
  have e3_ : pa_w h pa 12 = h_r h pa 3 := rfl
  have e4_ : pa_w h pa 13 = h_r h pa 4 := rfl
  have e5_ : pa_w h pa 14 = h_r h pa 5 := rfl
  have e6_ : pa_w h pa 15 = h_r h pa 6 := rfl
  have e7_ : pa_w h pa 7 = h_r h pa 7 := rfl
  have eC_ : pa_w h pa 11 = h_r h (h_r h pa 0) 0 := rfl
  obtain ⟨m1, m2, -, m4, -⟩ := b 13 (by decide)
  obtain ⟨l1, l2, -, l4, -⟩ := b 14 (by decide)
  obtain ⟨q1, q2, -, q4, -⟩ := b 15 (by decide)
  have n13 : pa_n 13 = 40 := rfl
  have n14 : pa_n 14 = 40 := rfl
  have n15 : pa_n 15 = 40 := rfl
  have p13 := pa_ne ok (i := 13) (by decide)
  have p14 := pa_ne ok (i := 14) (by decide)
  have p15 := pa_ne ok (i := 15) (by decide)
  have d1314 := c 13 14 (by decide) (by decide) (by decide)
  rw [e4_] at m1 m2 m4 p13 d1314
  rw [e5_] at l1 l2 l4 p14 d1314
  rw [e6_] at q1 q2 q4 p15
  have M := RX.start h
  have zl : ∀ {o j : Nat}, (h_i h o j).toInt = z_i h o j := rfl
  refine r_ka29 M e0 e1 e2 qk e3 qn e4 qv e5 qb (by omega) (by omega) (by omega) (by omega) (by rw [zl]; omega) (by rw [zl]; omega) (Ne.symm p13.1) (Ne.symm p14.1) p13.2.1 p14.2.1 d1314 ok.1.1 nx.1.1.1 m1 (by omega) m2 l1 (by omega) l2 ok.1.2.1 (fun h3 H3 f3 h5 H5 f5 x6 q6 M5 => ?_)
  rw [Int.toNat_natCast, zl, i5] at f3
  rw [Int.toNat_natCast, zl, i6] at f5
  rw [zl, i6] at q6
  have f3 : H3 = m_u (z_i h) (h_r h pa 4) (m_u (z_i h (h_r h pa 4)) k ((ps_n X.1 : Int) - (ps_n (ry_s Y) : Int))) := f3
  have o5 : ∀ q, q ≠ h_r h pa 4 → q ≠ h_r h pa 5 → H5 q = z_i h q := fun q h1 h2 => by rw [f5, m_uN _ _ _ _ h2, f3, m_uN _ _ _ _ h1]
  have p11 : H5 pa 11 = (k : Int) := by
    rw [o5 pa p13.1 p14.1]
    omega
  have h7ne : h_r h pa 7 ≠ h_r h pa 4 ∧ h_r h pa 7 ≠ h_r h pa 5 := ⟨c 7 13 (by decide) (by decide) (by decide), c 7 14 (by decide) (by decide) (by decide)⟩
  have s3ne : h_r h pa 3 ≠ h_r h pa 4 ∧ h_r h pa 3 ≠ h_r h pa 5 := ⟨c 12 13 (by decide) (by decide) (by decide), c 12 14 (by decide) (by decide) (by decide)⟩
  have a7 := (pa_ap ok (i := 7) (by decide) (by decide)).1
  have L7 := p_wsL (f := X.2.1) 6
  have e64 : (2 : Nat) ^ 6 = 64 := by decide
  rw [e64] at L7
  have bcL : ∀ f : Nat → Int, p_bc (p_ws f 6) ≤ 6 := fun f => p_bcL _ (by have := p_wsL (f := f) 6; rw [e64] at this; omega)
  have SZ : ∀ u : Nat, u ≤ k → H5 (h_r h pa 3) u = (p_ws (ry_h Y u) 6 : Int) ∧ p_ws (ry_h Y u) 6 ≤ 63 := fun u hu => ⟨by
    rw [o5 _ s3ne.1 s3ne.2]
    exact (P4 u (by omega)).2, by
    have := p_wsL (f := ry_h Y u) 6
    rw [e64] at this
    omega⟩
  have cr : ∀ u : Int, -1 ≤ u → u < (ry_v Y : Int) → (if 0 ≤ u ∧ u ≤ (k : Int) then (p_bc (p_ws (ry_h Y (u.toNat : Int)) 6) : Int) else 0) = cr_of Y u := fun u h0 h1 => by
    unfold cr_of
    by_cases cc : u = -1
    · rw [if_pos cc, if_neg (by omega)]
    · rw [if_neg cc, if_pos (by omega), show ((u.toNat : Nat) : Int) = u by omega]
  have crL : ∀ u : Int, 0 ≤ cr_of Y u ∧ cr_of Y u ≤ 6 := fun u => by
    unfold cr_of
    by_cases cc : u = -1
    · rw [if_pos cc]
      omega
    · rw [if_neg cc]
      have := bcL (ry_h Y u)
      omega
  refine k_hs (f := X.2.1) M5 ok.1.1 a7 (fun q hq => by rw [o5 _ h7ne.1 h7ne.2]; exact eh q hq) (fun xs qs => ?_)
  have bX := bcL X.2.1
  refine r_ka72 M5 e0 e1 e2 qk e3 qn e4 qv e5 qb qk q6 qs (k_bc qs (by omega) (fun xc qc => ?_))
  refine r_ka75 M5 e0 e1 e2 qk e3 qn e4 qv e5 qb qk q6 qc (by omega) (by omega) (by omega) (by omega) ok.1.2.1 ok.1.1 (fun x7 q7 => ?_)
  refine k_credit (sz := fun u => p_ws (ry_h Y u) 6) M5 ok p11 (by omega) SZ qv (fun x8 q8 => ?_)
  have q8 : x8.toInt = cr_of Y v := q8.trans (cr v par.1 par.2)
  have cv := crL v
  refine r_ka82 M5 e0 e1 e2 qk e3 qn e4 qv e5 qb qk q7 q8 (by omega) (by omega) (by omega) (by omega) ok.1.2.1 ok.1.1 (fun x9 q9 => ?_)
  refine k_credit (sz := fun u => p_ws (ry_h Y u) 6) M5 ok p11 (by omega) SZ qb (fun x10 q10 => ?_)
  have q10 : x10.toInt = cr_of Y b2 := q10.trans (cr b2 parb.1 parb.2)
  have cb := crL b2
  refine r_ka89 M5 e0 e1 e2 qk e3 qn e4 qv e5 qb qk q9 q10 (by omega) (by omega) (by omega) (by omega) (by omega) (by omega) q1 (by omega) q2 ok.1.1 ok.1.2.1 (fun h6 H6 f6 h7 H7 f7 M7 => ?_)
  rw [Int.toNat_natCast] at f6
  have o7 : ∀ q, q ≠ pa → q ≠ h_r h pa 6 → H7 q = H5 q := fun q h1 h2 => by rw [f7, m_uN _ _ _ _ h1, f6, m_uN _ _ _ _ h2]
  have p7_11 : H7 pa 11 = ((k + 1 : Nat) : Int) := by
    rw [f7, m_uE, m_uE]
    omega
  have h76 := c 7 15 (by decide) (by decide) (by decide)
  have p7 := (pa_ne ok (i := 7) (by decide)).1
  refine k_keep (f := X.2.1) (s := k + 1) M7 ok p7_11 (by omega) (fun q hq => by rw [o7 (h_r h pa 7) (Ne.symm p7) h76, o5 _ h7ne.1 h7ne.2]; exact eh q hq) (fun h8 H8 M8 o8 r8 s8 => ?_)
  have pr := (pa_ne ok (i := 18 + (k + 1)) (by omega)).1
  have p3 := (pa_ne ok (i := 12) (by decide)).1
  have p8_11 : H8 pa 11 = ((k + 1 : Nat) : Int) := by rw [o8 pa pr p3]; exact p7_11
  obtain ⟨li, lne⟩ := pa_li ok
  refine r_ka102 M8 e0 e1 e2 qk e3 qn e4 qv e5 qb ok.1.1 li.1.2 li.1.1 (fun x11 q11 => ?_)
  rw [p8_11] at q11
  refine k_lines (v := k + 1) M8 li lne q11 (by omega) qv qb (by omega) (by omega) (fun h9 H9 R9 o9 f9 s9 => ?_)
  refine r_ka117 (pa := pa) (RX.start h9) ?_
  -- what each row holds now
  have w : ∀ i, i < 59 → i ≠ 13 → i ≠ 14 → i ≠ 15 → i ≠ 12 → i ≠ 16 → i ≠ 17 → i ≠ 18 + (k + 1) → H9 (pa_w h pa i) = z_i h (pa_w h pa i) := fun i hi h13 h14 h15 h12 h16 h17 h18 => by
    rw [o9 _ (c i 16 hi (by decide) h16) (c i 17 hi (by decide) h17), o8 _ (c i _ hi (by omega) h18) (c i 12 hi (by decide) h12), o7 _ (Ne.symm (pa_ne ok hi).1) (c i 15 hi (by decide) h15), o5 _ (c i 13 hi (by decide) h13) (c i 14 hi (by decide) h14)]
  have ob : ∀ q, (∀ i, i < 59 → q ≠ pa_w h pa i) → q ≠ pa → H9 q = z_i h q := fun q hq hp => by
    rw [o9 _ (hq 16 (by decide)) (hq 17 (by decide)), o8 _ (hq _ (by omega)) (hq 12 (by decide)), o7 _ hp (hq 15 (by decide)), o5 _ (hq 13 (by decide)) (hq 14 (by decide))]
  have wnd : H9 (h_r h pa 0) = z_i h (h_r h pa 0) := ob _ (fun i hi => (pa_ne ok hi).2.1) (Ne.symm (pa_ne ok (i := 0) (by decide)).2.2.2.1)
  have wpa : H9 pa = m_u (z_i h pa) 11 ((k : Int) + 1) := by
    rw [o9 _ ((pa_ne ok (i := 16) (by decide)).1) ((pa_ne ok (i := 17) (by decide)).1), o8 pa pr p3, f7, m_uE, f6, m_uN _ _ _ _ p15.1, o5 pa p13.1 p14.1]
  have w13 : H9 (h_r h pa 4) = m_u (z_i h (h_r h pa 4)) k ((ps_n X.1 : Int) - (ps_n (ry_s Y) : Int)) := by
    rw [o9 (h_r h pa 4) (c 13 16 (by decide) (by decide) (by decide)) (c 13 17 (by decide) (by decide) (by decide)), o8 (h_r h pa 4) (c 13 _ (by decide) (by omega) (by omega)) (c 13 12 (by decide) (by decide) (by decide)), o7 (h_r h pa 4) (Ne.symm p13.1) (c 13 15 (by decide) (by decide) (by decide)), f5, m_uN _ _ _ _ d1314, f3, m_uE]
  have w14 : H9 (h_r h pa 5) = m_u (z_i h (h_r h pa 5)) k (ps_l X.1) := by
    rw [o9 (h_r h pa 5) (c 14 16 (by decide) (by decide) (by decide)) (c 14 17 (by decide) (by decide) (by decide)), o8 (h_r h pa 5) (c 14 _ (by decide) (by omega) (by omega)) (c 14 12 (by decide) (by decide) (by decide)), o7 (h_r h pa 5) (Ne.symm p14.1) (c 14 15 (by decide) (by decide) (by decide)), f5, m_uE, f3, m_uN _ _ _ _ (Ne.symm d1314)]
  have w15 : H9 (h_r h pa 6) = m_u (z_i h (h_r h pa 6)) k (ps_l X.1 + (p_bc (p_ws X.2.1 6) : Int) - cr_of Y v - cr_of Y b2) := by
    rw [o9 (h_r h pa 6) (c 15 16 (by decide) (by decide) (by decide)) (c 15 17 (by decide) (by decide) (by decide)), o8 (h_r h pa 6) (c 15 _ (by decide) (by omega) (by omega)) (c 15 12 (by decide) (by decide) (by decide)), f7, m_uN _ _ _ _ (Ne.symm p15.1), f6, m_uE, o5 (h_r h pa 6) (c 15 13 (by decide) (by decide) (by decide)) (c 15 14 (by decide) (by decide) (by decide))]
  have w12 : H9 (h_r h pa 3) = m_u (z_i h (h_r h pa 3)) (k + 1) (p_ws X.2.1 6 : Int) := by
    rw [o9 (h_r h pa 3) (c 12 16 (by decide) (by decide) (by decide)) (c 12 17 (by decide) (by decide) (by decide)), s8, o7 (h_r h pa 3) (Ne.symm p3) (c 12 15 (by decide) (by decide) (by decide)), o5 (h_r h pa 3) s3ne.1 s3ne.2]
  have w16 : H9 (h_r h (h_r h pa 1) 0) = m_u (z_i h (h_r h (h_r h pa 1) 0)) (k + 1) v := by
    rw [f9, o8 (h_r h (h_r h pa 1) 0) (c 16 _ (by decide) (by omega) (by omega)) (c 16 12 (by decide) (by decide) (by decide)), o7 (h_r h (h_r h pa 1) 0) (Ne.symm (pa_ne ok (i := 16) (by decide)).1) (c 16 15 (by decide) (by decide) (by decide)), o5 (h_r h (h_r h pa 1) 0) (c 16 13 (by decide) (by decide) (by decide)) (c 16 14 (by decide) (by decide) (by decide))]
  have w17 : H9 (h_r h (h_r h pa 1) 1) = m_u (z_i h (h_r h (h_r h pa 1) 1)) (k + 1) b2 := by
    rw [s9, o8 (h_r h (h_r h pa 1) 1) (c 17 _ (by decide) (by omega) (by omega)) (c 17 12 (by decide) (by decide) (by decide)), o7 (h_r h (h_r h pa 1) 1) (Ne.symm (pa_ne ok (i := 17) (by decide)).1) (c 17 15 (by decide) (by decide) (by decide)), o5 (h_r h (h_r h pa 1) 1) (c 17 13 (by decide) (by decide) (by decide)) (c 17 14 (by decide) (by decide) (by decide))]
  have w18 : hp6 (H9 (pa_w h pa (18 + (k + 1)))) X.2.1 := fun q hq => by
    rw [o9 _ (c _ 16 (by omega) (by decide) (by omega)) (c _ 17 (by omega) (by decide) (by omega))]
    exact r8 q hq
  have rr : h_r h9 = h_r h := R9.2.2.1
  have zz : ∀ a j, z_i h9 a j = H9 a j := R9.2.2.2.2
  have ww : ∀ i, pa_w h9 pa i = pa_w h pa i := fun i => by
    unfold pa_w
    rw [rr]
  have ok9 : nl_ok h9 (h_r h pa 0) := nl_RL ok.2.1 R9 (by rw [wnd])
  obtain ⟨fr1, fr2, fr3, fr4, fr5⟩ := pa_fr ok
  have vk : ry_v Y = k + 1 := O3
  have Yv : ry_v (ry_kp (ry_z Y) k w_ v a X) = ry_v Y + 1 := rfl
  refine g h9 ok9 ⟨?_, ?_, ⟨⟨⟨?_, ?_, ?_⟩, fun u hu => ?_⟩, fun q hq => ?_, fun u hu => ?_, fun u hu => ?_⟩⟩ (FX.ofRL R9 (by rw [wnd]) (fun j => ?_) (fun q hq => ⟨fun j => ?_, fun j => ?_⟩)) (fun q hq => ?_)
  · rw [rr]
    exact cs_mv I (by rw [zz, wnd]) (by rw [zz, wnd]) (fun q _ => by rw [rr, zz, ← eC_, w 11 (by decide) (by decide) (by decide) (by decide) (by decide) (by decide) (by decide) (by omega)])
  · rw [zz, wpa, m_uN _ _ _ _ (by decide)]
    exact et
  · rw [zz, wpa, m_uE]
    show (k : Int) + 1 + 1 = ((ry_v Y + 1 : Nat) : Int)
    omega
  · show 1 ≤ ry_v Y + 1
    omega
  · show ry_v Y + 1 ≤ 41
    omega
  · have hu : u < ry_v Y + 1 := hu
    by_cases cu : u = k + 1
    · subst cu
      refine ⟨fun q hq => ?_, ?_⟩
      · rw [ww, zz, w18 q hq]
        have := ry_kpN (Y := Y) (k := k) (w := w_) (v := v) (a := a) (X := X) q hq
        rw [vk] at this
        exact this.symm
      · rw [rr, zz, w12, m_uE]
        have := p_wsH (ry_kpN (Y := Y) (k := k) (w := w_) (v := v) (a := a) (X := X))
        rw [vk] at this
        rw [this]
    · refine ⟨fun q hq => ?_, ?_⟩
      · rw [ww, zz, w (18 + u) (by omega) (by omega) (by omega) (by omega) (by omega) (by omega) (by omega) (by omega), ry_kpH (by omega) q hq]
        exact (P4 u (by omega)).1 q hq
      · rw [rr, zz, w12, m_uN _ _ _ _ cu, p_wsH (ry_kpH (by omega))]
        exact (P4 u (by omega)).2
  · have hq : q + 1 < ry_v Y + 1 := hq
    rw [rr, zz, zz, zz, w13, w14, w15]
    by_cases cq : q = k
    · subst cq
      rw [m_uE, m_uE, m_uE]
      refine ⟨(m_uE _ _ _).symm, (m_uE _ _ _).symm, ?_⟩
      unfold ry_pd
      have g1 : ry_l (ry_kp (ry_z Y) q w_ v a X) q = ps_l X.1 := m_uE _ _ _
      have g2 : ry_a (ry_kp (ry_z Y) q w_ v a X) (q + 1) = v := by
        rw [← vk]
        refine (m_uE _ _ _).trans ev.symm
      have g3 : ry_b (ry_kp (ry_z Y) q w_ v a X) (q + 1) = b2 := by
        rw [← vk]
        refine (m_uE _ _ _).trans eb.symm
      have g4 := p_wsH (ry_kpN (Y := Y) (k := q) (w := w_) (v := v) (a := a) (X := X))
      rw [vk] at g4
      rw [g1, g2, g3, g4, cr_kp par.1 par.2, cr_kp parb.1 parb.2]
    · rw [m_uN _ _ _ _ cq, m_uN _ _ _ _ cq, m_uN _ _ _ _ cq]
      obtain ⟨t1, t2, t3⟩ := B2 q (by omega)
      refine ⟨t1.trans (m_uN _ _ _ _ cq).symm, t2.trans (m_uN _ _ _ _ cq).symm, t3.trans (pd_kp ⟨O1, ⟨O3, O4, O5, O6⟩, O7⟩ (by omega)).symm⟩
  · have hu : u < ry_v Y + 1 := hu
    rw [rr, zz, zz, w16, w17]
    show _ = m_u (ry_a Y) (ry_v Y) (if w_ = 0 then -1 else v) u ∧ _ = m_u (ry_b Y) (ry_v Y) (if w_ = 2 then a else -1) u
    rw [vk]
    by_cases cu : u = k + 1
    · rw [cu, m_uE, m_uE, m_uE, m_uE]
      exact ⟨ev, eb⟩
    · rw [m_uN _ _ _ _ cu, m_uN _ _ _ _ cu, m_uN _ _ _ _ cu, m_uN _ _ _ _ cu]
      exact B3 u (by omega)
  · have hu : u < ry_v Y + 1 := hu
    have eL : ∀ j, h_l h9 (h_r h9 (h_r h9 pa 1) 2) j = if j = k + 1 then bt ((k + 1 : Nat) : Int) ||| fo_of (h_l h (h_r h (h_r h pa 1) 2)) v ||| fo_of (h_l h (h_r h (h_r h pa 1) 2)) b2 else h_l h (h_r h (h_r h pa 1) 2) j := fun j => by
      rw [rr]
      refine (R9.2.2.2.1 _ j).trans ?_
      show (if h_r h (h_r h pa 1) 2 = h_r h (h_r h pa 1) 2 ∧ j = k + 1 then _ else _) = _
      by_cases cj : j = k + 1
      · rw [if_pos ⟨rfl, cj⟩, if_pos cj]
      · rw [if_neg (fun z => cj z.2), if_neg cj]
    have eF : ∀ x : Int, x < ((k + 1 : Nat) : Int) → fo_of (h_l h9 (h_r h9 (h_r h9 pa 1) 2)) x = fo_of (h_l h (h_r h (h_r h pa 1) 2)) x := fun x hx => by
      unfold fo_of
      by_cases cx : 0 ≤ x ∧ x < 41
      · rw [if_pos cx, if_pos cx, eL, if_neg (by omega)]
      · rw [if_neg cx, if_neg cx]
    show h_l h9 (h_r h9 (h_r h9 pa 1) 2) u = bt u ||| fo_of (h_l h9 (h_r h9 (h_r h9 pa 1) 2)) (m_u (ry_a Y) (ry_v Y) (if w_ = 0 then -1 else v) u) ||| fo_of (h_l h9 (h_r h9 (h_r h9 pa 1) 2)) (m_u (ry_b Y) (ry_v Y) (if w_ = 2 then a else -1) u)
    rw [vk, ← ev, ← eb]
    by_cases cu : u = k + 1
    · rw [cu, m_uE, m_uE, eF v (by omega), eF b2 (by omega), eL, if_pos rfl]
    · rw [m_uN _ _ _ _ cu, m_uN _ _ _ _ cu]
      obtain ⟨⟨-, u1⟩, -, u2⟩ := O7 u (by omega)
      rw [eF _ (by omega), eF _ (by omega), eL, if_neg cu]
      exact B4 u (by omega)
  · show (if h_r h (h_r h pa 0) 1 = h_r h (h_r h pa 1) 2 ∧ j = k + 1 then _ else _) = _
    rw [if_neg (fun z => fr5 z.1.symm)]
  · have nY : ¬ run_Y h pa q := fun z => hq (Or.inr (Or.inr (Or.inr z)))
    rw [ob q (fun i hi z => nY (Or.inr (Or.inr (Or.inl ⟨i, hi, z⟩)))) (fun z => nY (Or.inl z))]
  · have nY : ¬ run_Y h pa q := fun z => hq (Or.inr (Or.inr (Or.inr z)))
    show (if q = h_r h (h_r h pa 1) 2 ∧ j = k + 1 then _ else h_l h q j) = _
    rw [if_neg (fun z => nY (Or.inr (Or.inr (Or.inr z.1))))]
  · rw [zz, wpa, m_uN _ _ _ _ hq]
end
end
section
-- THE ACTS OF A ROW, ONE AFTER THE OTHER
theorem ac_FX {h h' : MH} {pa ac : Nat} {T : Nat → Int} {N : Nat} (ok : pa_ok h pa) (o' : nl_ok h' (h_r h pa 0)) (F : FX (h_r h pa 0) (run_Y h pa) h h') (ao : ac_ok h pa ac) (A : ac_of (z_i h) ac (h_r h ac 0) (h_r h ac 1) T N) : ac_ok h' pa ac ∧ ac_of (z_i h') ac (h_r h' ac 0) (h_r h' ac 1) T N := by
  obtain ⟨okp, re, rw_⟩ := pa_FX ok o' F
  obtain ⟨⟨a1, a2, a3⟩, ⟨b1, b2, b3⟩, ⟨c1, c2, c3⟩, d⟩ := ao
  have n := F.1
  have acn : ac ≠ h_r h pa 0 := fun z => by rw [z, ok.2.1.1.1] at a1; omega
  have R : ∀ k, h_r h' ac k = h_r h ac k := fun k => (F.2.2 ac a3).2.1 k (fun z => acn z.1)
  have kd : ∀ {x : Nat}, x < 16 + h_n h → h_k h' x = h_k h x := fun {x} hx => (F.2.2 x hx).1
  have row : ∀ q, q < 16 + h_n h → (h_k h q).1 = 20 → (∀ i, i < 59 → q ≠ pa_w h pa i) → ∀ j, z_i h' q j = z_i h q j := fun q ql qk qw => by
    refine (F.kp ql (fun z => ?_) (qw 11 (by decide)) (fun z => ?_) (fun z => ?_)).2.1
    · rw [z, ok.2.1.1.1] at qk
      omega
    · rw [z, ok.2.1.2.2.1.1] at qk
      omega
    · rcases z with z | z | ⟨i, hi, z⟩ | z
      · rw [z, ok.1.1] at qk
        omega
      · rw [z, ok.2.2.1.1] at qk
        omega
      · exact qw i hi z
      · rw [z, ok.2.2.2.2.2.1.1] at qk
        omega
  have az : ∀ j, z_i h' ac j = z_i h ac j := by
    refine (F.kp a3 acn (fun z => ?_) (fun z => ?_) (fun z => ?_)).2.1
    · rw [z, ok.2.1.2.1.1] at a1
      omega
    · rw [z, ok.2.1.2.2.1.1] at a1
      omega
    · rcases z with z | z | ⟨i, hi, z⟩ | z
      · rw [z, ok.1.1] at a1
        omega
      · rw [z, ok.2.2.1.1] at a1
        omega
      · have u := (ok.2.2.2.2.2.2.1 i hi).1
        rw [← z, a1] at u
        omega
      · rw [z, ok.2.2.2.2.2.1.1] at a1
        omega
  have w11 : pa_w h' pa 11 = pa_w h pa 11 ∨ 16 + h_n h ≤ pa_w h' pa 11 := by
    have e : pa_w h' pa 11 = h_r h' (h_r h pa 0) 0 := by
      show h_r h' (h_r h' pa 0) 0 = _
      rw [re]
    rw [e]
    exact F.2.1.1 0 (by decide)
  unfold ac_ok ac_of
  rw [R, R, kd a3, kd b2, kd c2, az]
  refine ⟨⟨⟨a1, a2, by omega⟩, ⟨b1, by omega, b3⟩, ⟨c1, by omega, c3⟩, fun i hi => ?_⟩, A.1, fun k hk => ⟨?_, fun i hi => ?_⟩⟩
  · by_cases e : i = 11
    · subst e
      obtain ⟨d1, d2⟩ := d 11 (by decide)
      rcases w11 with z | z
      · rw [z]
        exact ⟨d1, d2⟩
      · exact ⟨by omega, by omega⟩
    · rw [rw_ i hi e]
      exact d i hi
  · rw [row _ b2 b1 (fun i hi => (d i hi).1)]
    exact (A.2 k hk).1
  · rw [row _ c2 c1 (fun i hi => (d i hi).2)]
    exact (A.2 k hk).2 i hi
theorem FX.run2 {h h1 h2 : MH} {pa : Nat} (ok : pa_ok h pa) (o1 : nl_ok h1 (h_r h pa 0)) (a : FX (h_r h pa 0) (run_Y h pa) h h1) (b : FX (h_r h pa 0) (run_Y h1 pa) h1 h2) : FX (h_r h pa 0) (run_Y h pa) h h2 := a.trans2 b (fun _ hq z => run_Ye ok o1 a hq z)
section
variable {lv : List (Nat × Value)} {Q : Option Value → MH → Prop} {h0 h : MH} {H : Nat → Nat → Int}
theorem k_keepA {pa ac k N : Nat} {T : Nat → Int} {Y : RYt} {X : PSt × (Nat → Int) × Int} {b : Int} {xk xn : Int32} (ok : pa_ok h pa) (ao : ac_ok h pa ac) (A : ac_of (z_i h) ac (h_r h ac 0) (h_r h ac 1) T N) (N40 : N ≤ 40) (hk : k < N) (bk : bk_of h pa Y) (O : ry_ok Y k) (eX : ry_do (ry_z Y) (T (4 * k)) (T (4 * k + 1)) (T (4 * k + 2)) b = some X) (w0 : T (4 * k) = 0 → T (4 * k + 1) = -1) (I : cs_of h (z_i h) (h_r h pa 0) X.1) (eh : hp6 (z_i h (h_r h pa 7)) X.2.1) (et : z_i h pa 12 = X.2.2) (qk : xk.toInt = (k : Int)) (qn : xn.toInt = (ps_n (ry_s Y) : Int)) (g : ∀ h' : MH, nl_ok h' (h_r h pa 0) → pk_of h' pa (ry_kp (ry_z Y) k (T (4 * k)) (T (4 * k + 1)) (T (4 * k + 2)) X) → FX (h_r h pa 0) (run_Y h pa) h h' → Q none h') : HJ 81 0 (lv_args 0 [.ref pa, .ref ac, .int xk, .int xn]) [] h Q := by
  have M := RX.start h
  have O' := ry_okS O eX w0
  have nX : ps_n (ry_s Y) ≤ ps_n X.1 := (ry_doI (Y := ry_z Y) O.1.1 O.1.2 eX).2.1.1.1
  have vk := O.2.1.1
  have pp := O'.2.2 (ry_v Y) (by show ry_v Y < ry_v Y + 1; omega)
  have pa' : ry_a (ry_kp (ry_z Y) k (T (4 * k)) (T (4 * k + 1)) (T (4 * k + 2)) X) (ry_v Y) = (if T (4 * k) = 0 then -1 else T (4 * k + 1)) := m_uE _ _ _
  have pb' : ry_b (ry_kp (ry_z Y) k (T (4 * k)) (T (4 * k + 1)) (T (4 * k + 2)) X) (ry_v Y) = (if T (4 * k) = 2 then T (4 * k + 2) else -1) := m_uE _ _ _
  rw [pa', pb'] at pp
  have ev : T (4 * k + 1) = (if T (4 * k) = 0 then -1 else T (4 * k + 1)) := by
    by_cases c : T (4 * k) = 0
    · rw [if_pos c]
      exact w0 c
    · rw [if_neg c]
  rw [← ev] at pp
  have A' : ac_of (fun a j => (h_i h a j).toInt) ac (h_r h ac 0) (h_r h ac 1) T N := A
  refine r_ka0 M rfl rfl rfl qk rfl qn ao.1.2.1 ao.1.1 (fun x1 q1 => ?_)
  refine k_nof (i := 0) M ao A' N40 hk (by decide) qk q1 (fun xv qv => ?_)
  have qv : xv.toInt = T (4 * k + 1) := qv
  refine r_ka6 M rfl rfl rfl qk rfl qn qv ao.1.2.1 ao.1.1 (fun lv1 e0 e1 e2 e3 e4 => ?_)
  refine k_kof M ao A' N40 hk qk (fun xw qw => ?_)
  have fin : ∀ (b2 : Int) (xb : Int32) (lv2 : List (Nat × Value)), xb.toInt = b2 → b2 = (if T (4 * k) = 2 then T (4 * k + 2) else -1) → m_lk lv2 0 = some (.ref pa) → m_lk lv2 1 = some (.ref ac) → m_lk lv2 2 = some (.int xk) → m_lk lv2 3 = some (.int xn) → m_lk lv2 4 = some (.int xv) → m_lk lv2 5 = some (.int xb) → HJ 81 29 lv2 [] h Q := fun b2 xb lv2 qb eb d0 d1 d2 d3 d4 d5 => by
    rw [← eb] at pp
    exact k_ka29 (ac := ac) ok bk O (by omega) I eh et nX pp.1 pp.2 ev eb qk qn qv qb d0 d1 d2 d3 d4 d5 (fun h' o1 o2 o3 _ => g h' o1 o2 o3)
  refine r_ka13 M e0 e1 e2 qk e3 qn e4 qv qw ao.1.2.1 ao.1.1 (fun x2 q2 lv3 d0 d1 d2 d3 d4 d5 c => ?_) (fun x4 q4 c => ?_)
  · exact fin (-1) x2 lv3 q2 (by rw [if_neg c]) d0 d1 d2 d3 d4 d5
  · refine k_nof (i := 1) M ao A' N40 hk (by decide) qk q4 (fun xb qb => ?_)
    refine r_ka23 M e0 e1 e2 qk e3 qn e4 qv qb (fun lv4 d0 d1 d2 d3 d4 d5 => ?_)
    exact fin (T (4 * k + 2)) xb lv4 qb (by rw [if_pos c]) d0 d1 d2 d3 d4 d5
theorem r_ra44 {pa ac : Nat} {c k : Int} (M : RX h0 h H) (e0 : m_lk lv 0 = some (.ref pa)) (e1 : m_lk lv 1 = some (.ref ac)) {lx2 : Int32} (e2 : m_lk lv 2 = some (.int lx2)) (lq2 : lx2.toInt = c) {lx3 : Int32} (e3 : m_lk lv 3 = some (.int lx3)) (lq3 : lx3.toInt = k)  (hk0 : (h_k h0 ac).1 = 1) (hk1 : (h_k h0 pa).1 = 4) (hk2 : (h_k h0 (h_r h0 pa 0)).1 = 3) (hs0 : 16 ≤ ac)
    (g0 : c = 0 → HJ 45 125 lv [] h Q)
    (g1 : c ≠ 0 → k ≥ H ac 2 → HJ 45 125 lv [] h Q)
    (g2 : c ≠ 0 → k < H ac 2 → k ≥ 40 → HJ 45 125 lv [] h Q)
    (g3 : ∀ x3 : Int32, x3.toInt = H (h_r h0 pa 0) 5 → ∀ h6 : MH, ∀ H6 : Nat → Nat → Int, H6 = m_u H (h_r h0 pa 0) (m_u (H (h_r h0 pa 0)) 6 (0)) → ∀ lv4 : List (Nat × Value), RX h0 h6 H6 → m_lk lv4 0 = some (.ref pa) → m_lk lv4 1 = some (.ref ac) → m_lk lv4 2 = some (.int lx2) → m_lk lv4 3 = some (.int lx3) → m_lk lv4 4 = some (.int x3) → c ≠ 0 → k < H ac 2 → k < 40 → HJ 54 0 (lv_args 0 [.ref ac, .int lx3]) [] h6 (fun v h' => HJ 45 85 lv4 (v.toList ++ [.ref pa]) h' Q))
    : HJ 45 44 lv [] h Q := by
  refine hI_il (k := 2) rfl e2 rfl ?_ -- 44
  refine hM_zeq (off := 80) (t := 125) rfl lq2 (by decide) rfl (fun c45 => ?_) (fun c45 => ?_) -- 45
  · exact g0 c45
  · refine hI_il (k := 3) rfl e3 rfl ?_ -- 48
    refine hI_al (k := 1) rfl e1 rfl ?_ -- 49
    refine hR_gi (c := 0) (k := 2) M hk0 rfl rfl rfl rfl (fun x1 q1 => ?_) -- 50
    have gb1 : -2147483648 ≤ H ac 2 ∧ H ac 2 ≤ 2147483647 := by rw [← q1]; exact g_iT _
    refine hM_cge (off := 72) (t := 125) rfl lq3 q1 (by decide) rfl (fun c53 => ?_) (fun c53 => ?_) -- 53
    · exact g1 c45 c53
    · refine hI_il (k := 3) rfl e3 rfl ?_ -- 56
      refine hM_bp (n := 40) rfl (by decide) rfl (fun x2 q2 => ?_) -- 57
      refine hM_cge (off := 66) (t := 125) rfl lq3 q2 (by decide) rfl (fun c59 => ?_) (fun c59 => ?_) -- 59
      · exact g2 c45 c53 c59
      · refine hI_al (k := 0) rfl e0 rfl ?_ -- 62
        refine hR_gr (c := 3) (k := 0) M hk1 rfl rfl rfl rfl ?_ -- 63
        refine hR_gi (c := 2) (k := 5) M hk2 rfl rfl rfl rfl (fun x3 q3 => ?_) -- 66
        have gb3 : -2147483648 ≤ H (h_r h0 pa 0) 5 ∧ H (h_r h0 pa 0) 5 ≤ 2147483647 := by rw [← q3]; exact g_iT _
        refine hM_si2 (k := 4) rfl (by decide +kernel) rfl (fun lv4 e4_4 u4 => ?_) -- 69
        have e4_0 := u4 0 _ (by decide) (Or.inl rfl) e0
        have e4_1 := u4 1 _ (by decide) (Or.inl rfl) e1
        have e4_2 := u4 2 _ (by decide) (Or.inl rfl) e2
        have e4_3 := u4 3 _ (by decide) (Or.inl rfl) e3
        refine hI_al (k := 0) rfl e4_0 rfl ?_ -- 71
        refine hR_gr (c := 3) (k := 0) M hk1 rfl rfl rfl rfl ?_ -- 72
        refine hM_ic (n := 0) rfl (by decide) rfl (fun x5 q5 => ?_) -- 75
        refine hR_pi (c := 2) (k := 6) M hk2 rfl rfl ⟨by decide, by decide +kernel, rfl⟩ q5 rfl (fun h6 H6 f6 M6 => ?_) -- 76
        refine hI_al (k := 0) rfl e4_0 rfl ?_ -- 79
        refine hI_al (k := 1) rfl e4_1 rfl ?_ -- 80
        refine hI_il (k := 3) rfl e4_3 rfl ?_ -- 81
        refine HJ.call (j := 54) (as := [.ref ac, .int lx3]) (rr := [.ref pa]) (pc' := 85) (m_cR (kc := 0) rfl rfl (by decide +kernel) rfl rfl rfl ⟨rfl, by decide +kernel, by decide +kernel⟩ (by decide) hs0 (by rw [M6.2.1]; exact hk0)) (by show 2 ≤ m_lc 54; decide +kernel) ?_ -- 82
        exact g3 x3 q3 h6 H6 f6 lv4 M6 e4_0 e4_1 e4_2 e4_3 e4_4 c45 c53 c59
theorem r_ra85 {pa ac : Nat} {c k n w : Int} (M : RX h0 h H) (e0 : m_lk lv 0 = some (.ref pa)) (e1 : m_lk lv 1 = some (.ref ac)) {lx2 : Int32} (e2 : m_lk lv 2 = some (.int lx2)) (lq2 : lx2.toInt = c) {lx3 : Int32} (e3 : m_lk lv 3 = some (.int lx3)) (lq3 : lx3.toInt = k) {lx4 : Int32} (e4 : m_lk lv 4 = some (.int lx4)) (lq4 : lx4.toInt = n) {sx1 : Int32} (sq1 : sx1.toInt = w)  (hs0 : 16 ≤ ac) (hk0 : (h_k h0 ac).1 = 1)
    (g0 : ∀ x1 : Int32, x1.toInt = 0 → HJ 55 0 (lv_args 0 [.ref ac, .int lx3, .int x1]) [] h (fun v h' => HJ 45 91 lv (v.toList ++ [.int sx1, .ref pa]) h' Q))
    : HJ 45 85 lv [.int sx1, .ref pa] h Q := by
  refine hI_al (k := 1) rfl e1 rfl ?_ -- 85
  refine hI_il (k := 3) rfl e3 rfl ?_ -- 86
  refine hM_ic (n := 0) rfl (by decide) rfl (fun x1 q1 => ?_) -- 87
  refine HJ.call (j := 55) (as := [.ref ac, .int lx3, .int x1]) (rr := [.int sx1, .ref pa]) (pc' := 91) (m_cR (kc := 0) rfl rfl (by decide +kernel) rfl rfl rfl ⟨rfl, by decide +kernel, by decide +kernel⟩ (by decide) hs0 (by rw [M.2.1]; exact hk0)) (by show 3 ≤ m_lc 55; decide +kernel) ?_ -- 88
  exact g0 x1 q1
theorem r_ra91 {pa ac : Nat} {c k n w v : Int} (M : RX h0 h H) (e0 : m_lk lv 0 = some (.ref pa)) (e1 : m_lk lv 1 = some (.ref ac)) {lx2 : Int32} (e2 : m_lk lv 2 = some (.int lx2)) (lq2 : lx2.toInt = c) {lx3 : Int32} (e3 : m_lk lv 3 = some (.int lx3)) (lq3 : lx3.toInt = k) {lx4 : Int32} (e4 : m_lk lv 4 = some (.int lx4)) (lq4 : lx4.toInt = n) {sx1 : Int32} (sq1 : sx1.toInt = w) {sx2 : Int32} (sq2 : sx2.toInt = v)  (hs0 : 16 ≤ ac) (hk0 : (h_k h0 ac).1 = 1)
    (g0 : ∀ x1 : Int32, x1.toInt = 1 → HJ 55 0 (lv_args 0 [.ref ac, .int lx3, .int x1]) [] h (fun v h' => HJ 45 97 lv (v.toList ++ [.int sx2, .int sx1, .ref pa]) h' Q))
    : HJ 45 91 lv [.int sx2, .int sx1, .ref pa] h Q := by
  refine hI_al (k := 1) rfl e1 rfl ?_ -- 91
  refine hI_il (k := 3) rfl e3 rfl ?_ -- 92
  refine hM_ic (n := 1) rfl (by decide) rfl (fun x1 q1 => ?_) -- 93
  refine HJ.call (j := 55) (as := [.ref ac, .int lx3, .int x1]) (rr := [.int sx2, .int sx1, .ref pa]) (pc' := 97) (m_cR (kc := 0) rfl rfl (by decide +kernel) rfl rfl rfl ⟨rfl, by decide +kernel, by decide +kernel⟩ (by decide) hs0 (by rw [M.2.1]; exact hk0)) (by show 3 ≤ m_lc 55; decide +kernel) ?_ -- 94
  exact g0 x1 q1
theorem r_ra97 {pa ac : Nat} {c k n w v a : Int} (M : RX h0 h H) (e0 : m_lk lv 0 = some (.ref pa)) (e1 : m_lk lv 1 = some (.ref ac)) {lx2 : Int32} (e2 : m_lk lv 2 = some (.int lx2)) (lq2 : lx2.toInt = c) {lx3 : Int32} (e3 : m_lk lv 3 = some (.int lx3)) (lq3 : lx3.toInt = k) {lx4 : Int32} (e4 : m_lk lv 4 = some (.int lx4)) (lq4 : lx4.toInt = n) {sx1 : Int32} (sq1 : sx1.toInt = w) {sx2 : Int32} (sq2 : sx2.toInt = v) {sx3 : Int32} (sq3 : sx3.toInt = a)  (hs0 : 16 ≤ ac) (hk0 : (h_k h0 ac).1 = 1)
    (g0 : ∀ x1 : Int32, x1.toInt = 2 → HJ 55 0 (lv_args 0 [.ref ac, .int lx3, .int x1]) [] h (fun v h' => HJ 45 103 lv (v.toList ++ [.int sx3, .int sx2, .int sx1, .ref pa]) h' Q))
    : HJ 45 97 lv [.int sx3, .int sx2, .int sx1, .ref pa] h Q := by
  refine hI_al (k := 1) rfl e1 rfl ?_ -- 97
  refine hI_il (k := 3) rfl e3 rfl ?_ -- 98
  refine hM_ic (n := 2) rfl (by decide) rfl (fun x1 q1 => ?_) -- 99
  refine HJ.call (j := 55) (as := [.ref ac, .int lx3, .int x1]) (rr := [.int sx3, .int sx2, .int sx1, .ref pa]) (pc' := 103) (m_cR (kc := 0) rfl rfl (by decide +kernel) rfl rfl rfl ⟨rfl, by decide +kernel, by decide +kernel⟩ (by decide) hs0 (by rw [M.2.1]; exact hk0)) (by show 3 ≤ m_lc 55; decide +kernel) ?_ -- 100
  exact g0 x1 q1
theorem r_ra103 {pa ac : Nat} {c k n w v a b : Int} (M : RX h0 h H) (e0 : m_lk lv 0 = some (.ref pa)) (e1 : m_lk lv 1 = some (.ref ac)) {lx2 : Int32} (e2 : m_lk lv 2 = some (.int lx2)) (lq2 : lx2.toInt = c) {lx3 : Int32} (e3 : m_lk lv 3 = some (.int lx3)) (lq3 : lx3.toInt = k) {lx4 : Int32} (e4 : m_lk lv 4 = some (.int lx4)) (lq4 : lx4.toInt = n) {sx1 : Int32} (sq1 : sx1.toInt = w) {sx2 : Int32} (sq2 : sx2.toInt = v) {sx3 : Int32} (sq3 : sx3.toInt = a) {sx4 : Int32} (sq4 : sx4.toInt = b)  (hs0 : 16 ≤ pa) (hk0 : (h_k h0 pa).1 = 4)
    (g0 : HJ 56 0 (lv_args 0 [.ref pa, .int sx1, .int sx2, .int sx3, .int sx4]) [] h (fun v h' => HJ 45 106 lv (v.toList ++ []) h' Q))
    : HJ 45 103 lv [.int sx4, .int sx3, .int sx2, .int sx1, .ref pa] h Q := by
  refine HJ.call (j := 56) (as := [.ref pa, .int sx1, .int sx2, .int sx3, .int sx4]) (rr := []) (pc' := 106) (m_cR (kc := 3) rfl rfl (by decide +kernel) rfl rfl rfl ⟨rfl, by decide +kernel, by decide +kernel⟩ (by decide) hs0 (by rw [M.2.1]; exact hk0)) (by show 5 ≤ m_lc 56; decide +kernel) ?_ -- 103
  exact g0 
theorem r_ra106 {pa ac : Nat} {c k n z : Int} (M : RX h0 h H) (e0 : m_lk lv 0 = some (.ref pa)) (e1 : m_lk lv 1 = some (.ref ac)) {lx2 : Int32} (e2 : m_lk lv 2 = some (.int lx2)) (lq2 : lx2.toInt = c) {lx3 : Int32} (e3 : m_lk lv 3 = some (.int lx3)) (lq3 : lx3.toInt = k) {lx4 : Int32} (e4 : m_lk lv 4 = some (.int lx4)) (lq4 : lx4.toInt = n) {sx0 : Int32} (sq0 : sx0.toInt = z)  (hs0 : 16 ≤ pa) (hk0 : (h_k h0 pa).1 = 4)
    (g0 : ∀ lv1 : List (Nat × Value), m_lk lv1 0 = some (.ref pa) → m_lk lv1 1 = some (.ref ac) → m_lk lv1 2 = some (.int sx0) → m_lk lv1 3 = some (.int lx3) → m_lk lv1 4 = some (.int lx4) → z = 0 → HJ 45 119 lv1 [] h Q)
    (g1 : ∀ lv1 : List (Nat × Value), m_lk lv1 0 = some (.ref pa) → m_lk lv1 1 = some (.ref ac) → m_lk lv1 2 = some (.int sx0) → m_lk lv1 3 = some (.int lx3) → m_lk lv1 4 = some (.int lx4) → z ≠ 0 → HJ 81 0 (lv_args 0 [.ref pa, .ref ac, .int lx3, .int lx4]) [] h (fun v h' => HJ 45 119 lv1 (v.toList ++ []) h' Q))
    : HJ 45 106 lv [.int sx0] h Q := by
  refine hM_si (k := 2) rfl (by decide +kernel) rfl (fun lv1 e1_2 u1 => ?_) -- 106
  have e1_0 := u1 0 _ (by decide) (Or.inl rfl) e0
  have e1_1 := u1 1 _ (by decide) (Or.inl rfl) e1
  have e1_3 := u1 3 _ (by decide) (Or.inl rfl) e3
  have e1_4 := u1 4 _ (by decide) (Or.inl rfl) e4
  refine hI_il (k := 2) rfl e1_2 rfl ?_ -- 107
  refine hM_zeq (off := 11) (t := 119) rfl sq0 (by decide) rfl (fun c108 => ?_) (fun c108 => ?_) -- 108
  · exact g0 lv1 e1_0 e1_1 e1_2 e1_3 e1_4 c108
  · refine hI_al (k := 0) rfl e1_0 rfl ?_ -- 111
    refine hI_al (k := 1) rfl e1_1 rfl ?_ -- 112
    refine hI_il (k := 3) rfl e1_3 rfl ?_ -- 113
    refine hI_il2 (k := 4) rfl e1_4 rfl ?_ -- 114
    refine HJ.call (j := 81) (as := [.ref pa, .ref ac, .int lx3, .int lx4]) (rr := []) (pc' := 119) (m_cR (kc := 3) rfl rfl (by decide +kernel) rfl rfl rfl ⟨rfl, by decide +kernel, by decide +kernel⟩ (by decide) hs0 (by rw [M.2.1]; exact hk0)) (by show 4 ≤ m_lc 81; decide +kernel) ?_ -- 116
    exact g1 lv1 e1_0 e1_1 e1_2 e1_3 e1_4 c108
theorem r_ra119 {pa ac : Nat} {c k : Int} (M : RX h0 h H) (e0 : m_lk lv 0 = some (.ref pa)) (e1 : m_lk lv 1 = some (.ref ac)) {lx2 : Int32} (e2 : m_lk lv 2 = some (.int lx2)) (lq2 : lx2.toInt = c) {lx3 : Int32} (e3 : m_lk lv 3 = some (.int lx3)) (lq3 : lx3.toInt = k) (pk0 : 0 ≤ k) (pk1 : k ≤ 39)
    (g0 : ∀ x1 : Int32, x1.toInt = k + 1 → ∀ lv1 : List (Nat × Value), m_lk lv1 0 = some (.ref pa) → m_lk lv1 1 = some (.ref ac) → m_lk lv1 2 = some (.int lx2) → m_lk lv1 3 = some (.int x1) → HJ 45 44 lv1 [] h Q)
    : HJ 45 119 lv [] h Q := by
  refine hM_inc (k := 3) (z := 1) rfl e3 lq3 (by decide) (by omega) (by omega) (by decide +kernel) rfl (fun lv1 x1 q1 e1_3 u1 => ?_) -- 119
  have e1_0 := u1 0 _ (by decide) (Or.inl rfl) e0
  have e1_1 := u1 1 _ (by decide) (Or.inl rfl) e1
  have e1_2 := u1 2 _ (by decide) (Or.inl rfl) e2
  refine hI_go (pc' := 44) (off := (-78)) rfl (by decide) ?_ -- 122
  exact g0 x1 q1 lv1 e1_0 e1_1 e1_2 e1_3
theorem l_raR {pa ac N : Nat} {T : Nat → Int} (ok0 : pa_ok h0 pa) (ao0 : ac_ok h0 pa ac) (A0 : ac_of (z_i h0) ac (h_r h0 ac 0) (h_r h0 ac 1) T N) (N40 : N ≤ 40) (av : ∀ k, k < N → av_2 T k) (g : ∀ (lv : List (Nat × Value)) (h' : MH) (k : Nat), k ≤ N → ry_ok (ry_run T N).1 k → nl_ok h' (h_r h0 pa 0) → pk_of h' pa (ry_run T N).1 → FX (h_r h0 pa 0) (run_Y h0 pa) h0 h' → m_lk lv 0 = some (.ref pa) → m_lk lv 1 = some (.ref ac) → HJ 45 125 lv [] h' Q) : ∀ (e k : Nat) (lv : List (Nat × Value)) (h : MH) (xc xk : Int32), k + e = N → ry_ok (ry_run T k).1 k → (ry_run T k).2 = true → nl_ok h (h_r h0 pa 0) → pk_of h pa (ry_run T k).1 → FX (h_r h0 pa 0) (run_Y h0 pa) h0 h → xc.toInt = 1 → xk.toInt = (k : Int) → m_lk lv 0 = some (.ref pa) → m_lk lv 1 = some (.ref ac) → m_lk lv 2 = some (.int xc) → m_lk lv 3 = some (.int xk) → HJ 45 44 lv [] h Q := by
  intro e
  induction e with
  | zero =>
    intro k lv h xc xk he O f ok B F qc qk e0 e1 e2 e3
    have kN : k = N := by omega
    subst kN
    obtain ⟨okp, re, rw_⟩ := pa_FX ok0 ok F
    obtain ⟨ao, A⟩ := ac_FX ok0 ok F ao0 A0
    have a1 : (h_i h ac 2).toInt = (k : Int) := A.1
    exact r_ra44 (RX.start h) e0 e1 e2 qc e3 qk ao.1.1 okp.1.1 (by rw [re]; exact ok.1.1) ao.1.2.1 (fun c => absurd c (by omega)) (fun _ _ => g lv h k (Nat.le_refl _) O ok B F e0 e1) (fun _ c => absurd c (by omega)) (fun _ _ _ _ _ _ _ _ _ _ _ _ _ c => absurd c (by omega))
  | succ e ih =>
    intro k lv h xc xk he O f ok B F qc qk e0 e1 e2 e3
    obtain ⟨okp, re, rw_⟩ := pa_FX ok0 ok F
    obtain ⟨ao, A⟩ := ac_FX ok0 ok F ao0 A0
    have a1 : (h_i h ac 2).toInt = (N : Int) := A.1
    obtain ⟨I, Bt, Bk⟩ := B
    obtain ⟨⟨v1, v2⟩, v3, v4⟩ := av k (by omega)
    have O' := O
    obtain ⟨⟨O1, O2⟩, ⟨O3, O4, O5, O6⟩, O7⟩ := O
    have i3 := I.2.2.1
    have M := RX.start h
    refine r_ra44 M e0 e1 e2 qc e3 qk ao.1.1 okp.1.1 (by rw [re]; exact ok.1.1) ao.1.2.1 (fun c => absurd c (by omega)) (fun _ c => absurd c (by omega)) (fun _ _ c => absurd c (by omega)) (fun x3 q3 h6 H6 f6 lv4 M6 d0 d1 d2 d3 d4 _ _ _ => ?_)
    have q3 : x3.toInt = (ps_n (ry_s (ry_run T k).1) : Int) := q3.trans I.1
    have r6 : h_r h6 = h_r h := M6.2.2.1.1
    have nd' : h_r h pa 0 = h_r h0 pa 0 := re 0
    have o6 : ∀ q, q ≠ h_r h pa 0 → H6 q = z_i h q := fun q hq => by rw [f6, m_uN _ _ _ _ hq]; rfl
    have ok' : nl_ok h (h_r h pa 0) := by rw [nd']; exact ok
    have ok6 : nl_ok h6 (h_r h pa 0) := nl_RX ok' M6 (by rw [f6, m_uE, m_uN _ _ _ _ (by decide)]; rfl)
    have F6 : FX (h_r h pa 0) (py_Y h pa) h h6 := FX.ofRX M6 (by rw [f6, m_uE, m_uN _ _ _ _ (by decide)]; rfl) (fun a ha j => by rw [o6 a (fun z => ha (Or.inl z))])
    have pn := (pa_ne okp (i := 11) (by decide))
    have cn : h_r h (h_r h pa 0) 0 ≠ h_r h pa 0 := Ne.symm pn.2.1
    have I6 : cs_of h6 (z_i h6) (h_r h pa 0) (ps_le (ry_s (ry_run T k).1) 0) := cs_le I (by rw [M6.zi, f6, m_uE, m_uN _ _ _ _ (by decide)]; rfl) (by rw [M6.zi, f6, m_uE, m_uE]) (Int.le_refl _) (by omega) (fun q _ => by rw [r6, M6.zi, o6 _ cn])
    have z6 : ∀ q, z_i h6 pa q = z_i h pa q := fun q => by rw [M6.zi, o6 pa pn.2.2.2.1]
    have B6 : bk_of h6 pa (ry_run T k).1 := bk_FX okp ok6 F6 (z6 11) Bk
    obtain ⟨okp6, re6, rw6⟩ := pa_FX okp ok6 F6
    have acn : ac ≠ h_r h pa 0 := fun z => by have := ao.1.1; rw [z, ok'.1.1] at this; omega
    have arn : h_r h ac 0 ≠ h_r h pa 0 := fun z => by have := ao.2.1.1; rw [z, ok'.1.1] at this; omega
    have arn1 : h_r h ac 1 ≠ h_r h pa 0 := fun z => by have := ao.2.2.1.1; rw [z, ok'.1.1] at this; omega
    have A6 : ac_of H6 ac (h_r h ac 0) (h_r h ac 1) T N := ⟨by rw [o6 ac acn]; exact A.1, fun q hq => ⟨by rw [o6 _ arn]; exact (A.2 q hq).1, fun i hi => by rw [o6 _ arn1]; exact (A.2 q hq).2 i hi⟩⟩
    refine k_kof M6 ao A6 N40 (by omega) qk (fun xw qw => ?_)
    refine r_ra85 M6 d0 d1 d2 qc d3 qk d4 q3 qw ao.1.2.1 ao.1.1 (fun x7 q7 => ?_)
    refine k_nof (i := 0) M6 ao A6 N40 (by omega) (by decide) qk q7 (fun xv qv => ?_)
    have qv : xv.toInt = T (4 * k + 1) := qv
    refine r_ra91 M6 d0 d1 d2 qc d3 qk d4 q3 qw qv ao.1.2.1 ao.1.1 (fun x8 q8 => ?_)
    refine k_nof (i := 1) M6 ao A6 N40 (by omega) (by decide) qk q8 (fun xa qa => ?_)
    have qa : xa.toInt = T (4 * k + 2) := qa
    refine r_ra97 M6 d0 d1 d2 qc d3 qk d4 q3 qw qv qa ao.1.2.1 ao.1.1 (fun x9 q9 => ?_)
    refine k_nof (i := 2) M6 ao A6 N40 (by omega) (by decide) qk q9 (fun xb qb => ?_)
    have qb : xb.toInt = T (4 * k + 3) := qb
    refine r_ra103 M6 d0 d1 d2 qc d3 qk d4 q3 qw qv qa qb okp.1.2.1 okp.1.1 ?_
    have nd6 : h_r h6 pa 0 = h_r h pa 0 := re6 0
    refine k_perform (Y := (ry_run T k).1) okp6 (by rw [nd6]; exact I6) B6.1 O1 O2 (by omega) ((z6 12).trans Bt) O5 (by omega) v1 v2 v3 qw qv qa qb (fun xz h7 hz ok7 F7 z7 => ?_)
    rw [nd6] at hz ok7 F7
    rw [re6] at hz
    have F67 : FX (h_r h pa 0) (run_Y h pa) h h7 := (F6.mono (fun _ z => py_run z)).trans2 F7 (fun q hq z => run_Ye okp ok6 (F6.mono (fun _ z => py_run z)) hq (py_run z))
    have F67' : FX (h_r h6 pa 0) (py_Y h6 pa) h6 h7 := by rw [nd6]; exact F7
    have B7 : bk_of h7 pa (ry_run T k).1 := bk_FX okp6 (by rw [nd6]; exact ok7) F67' (z7 11 (by decide)) B6
    obtain ⟨okp7, re7, rw7⟩ := pa_FX okp ok7 F67
    have nd7 : h_r h7 pa 0 = h_r h pa 0 := re7 0
    have F07 : FX (h_r h0 pa 0) (run_Y h0 pa) h0 h7 := FX.run2 ok0 ok F (by rw [← nd']; exact F67)
    rcases hz with ⟨x0, xn, xI, xt⟩ | ⟨x1, X, xe, xI, xh, xt⟩
    · -- it can't be
      have er : ry_run T (k + 1) = (ry_z (ry_run T k).1, false) := ry_run0 f xn
      have eN : ry_run T N = (ry_z (ry_run T k).1, false) := by
        have := ry_runE (T := T) (k := k + 1) (by rw [er]) e
        rw [show k + 1 + e = N by omega, er] at this
        exact this
      refine r_ra106 (RX.start h7) d0 d1 d2 qc d3 qk d4 q3 x0 okp7.1.2.1 okp7.1.1 (fun lv5 b0 b1 b2 b3 b4 _ => ?_) (fun _ _ _ _ _ _ c => absurd rfl c)
      refine r_ra119 (RX.start h7) b0 b1 b2 x0 b3 qk (by omega) (by omega) (fun x10 q10 lv6 c0 c1 c2 c3 => ?_)
      obtain ⟨ao7, A7⟩ := ac_FX ok0 (by rw [← nd']; exact ok7) F07 ao0 A0
      refine r_ra44 (RX.start h7) c0 c1 c2 x0 c3 q10 ao7.1.1 okp7.1.1 (by rw [nd7]; exact ok7.1.1) ao7.1.2.1 (fun _ => ?_) (fun c => absurd rfl c) (fun c => absurd rfl c) (fun _ _ _ _ _ _ _ _ _ _ _ _ c => absurd rfl c)
      refine g lv6 h7 k (by omega) (by rw [eN]; exact O') (by rw [← nd']; exact ok7) ?_ F07 c0 c1
      rw [eN]
      refine ⟨?_, xt, B7⟩
      rw [nd7]
      exact xI
    · have er : ry_run T (k + 1) = (ry_kp (ry_z (ry_run T k).1) k (T (4 * k)) (T (4 * k + 1)) (T (4 * k + 2)) X, true) := ry_run1 f xe
      refine r_ra106 (RX.start h7) d0 d1 d2 qc d3 qk d4 q3 x1 okp7.1.2.1 okp7.1.1 (fun _ _ _ _ _ _ c => absurd c (by decide)) (fun lv5 b0 b1 b2 b3 b4 _ => ?_)
      obtain ⟨ao7, A7⟩ := ac_FX ok0 (by rw [← nd']; exact ok7) F07 ao0 A0
      refine k_keepA (b := T (4 * k + 3)) okp7 ao7 A7 N40 (by omega) B7 O' xe v4 (by rw [nd7]; exact xI) (by rw [re7]; exact xh) xt qk q3 (fun h8 ok8 B8 F8 => ?_)
      rw [nd7] at ok8 F8
      have F08 : FX (h_r h0 pa 0) (run_Y h0 pa) h0 h8 := FX.run2 ok0 (by rw [← nd']; exact ok7) F07 (by rw [← nd']; exact F8)
      refine r_ra119 (RX.start h8) b0 b1 b2 x1 b3 qk (by omega) (by omega) (fun x10 q10 lv6 c0 c1 c2 c3 => ?_)
      exact ih (k + 1) lv6 h8 xz x10 (by omega) (by rw [er]; exact ry_okS O' xe v4) (by rw [er]) (by rw [← nd']; exact ok8) (by rw [er]; exact B8) F08 x1 (by omega) c0 c1 c2 c3
end
end
section
-- A RUN FROM ITS BEGINNING TO ITS END
theorem pa_RL {h0 h : MH} {H : Nat → Nat → Int} {L : Nat → Nat → Int64} {pa : Nat} (ok : pa_ok h0 pa) (M : RL h0 h H L) (o : nl_ok h (h_r h0 pa 0)) : pa_ok h pa ∧ h_r h = h_r h0 ∧ ∀ i, pa_w h pa i = pa_w h0 pa i := by
  have rr := M.2.2.1
  have ww : ∀ i, pa_w h pa i = pa_w h0 pa i := fun i => by
    unfold pa_w
    rw [rr]
  have nn : h_n h = h_n h0 := by
    have := M.1
    unfold h_n
    rw [this]
  refine ⟨?_, rr, ww⟩
  obtain ⟨a, n, t, r, li, fr, b, c⟩ := ok
  unfold pa_ok
  rw [rr, M.2.1, nn]
  exact ⟨a, o, t, r, li, fr, fun i hi => by rw [ww]; exact b i hi, fun i j hi hj hn => by rw [ww, ww]; exact c i j hi hj hn⟩
-- the picture stands while only the trail and who holds the nodes change
theorem pk_RL {h0 h : MH} {H : Nat → Nat → Int} {L : Nat → Nat → Int64} {pa : Nat} {Y : RYt} (ok : pa_ok h0 pa) (M : RL h0 h H L) (hw : ∀ i, 7 ≤ i → i < 59 → H (pa_w h0 pa i) = z_i h0 (pa_w h0 pa i)) (hn : H (h_r h0 pa 0) = z_i h0 (h_r h0 pa 0)) (hp : H pa = z_i h0 pa) (hl : ∀ j, L (h_r h0 (h_r h0 pa 1) 2) j = h_l h0 (h_r h0 (h_r h0 pa 1) 2) j) (B : pk_of h0 pa Y) : pk_of h pa Y := by
  have rr := M.2.2.1
  have zz : ∀ a j, z_i h a j = H a j := M.2.2.2.2
  have ww : ∀ i, pa_w h pa i = pa_w h0 pa i := fun i => by
    unfold pa_w
    rw [rr]
  obtain ⟨I, Bt, ⟨⟨p1, p2, p3⟩, p4⟩, b2, b3, b4⟩ := B
  have w11 : H (h_r h0 (h_r h0 pa 0) 0) = z_i h0 (h_r h0 (h_r h0 pa 0) 0) := hw 11 (by decide) (by decide)
  have w12 : H (h_r h0 pa 3) = z_i h0 (h_r h0 pa 3) := hw 12 (by decide) (by decide)
  have w13 : H (h_r h0 pa 4) = z_i h0 (h_r h0 pa 4) := hw 13 (by decide) (by decide)
  have w14 : H (h_r h0 pa 5) = z_i h0 (h_r h0 pa 5) := hw 14 (by decide) (by decide)
  have w15 : H (h_r h0 pa 6) = z_i h0 (h_r h0 pa 6) := hw 15 (by decide) (by decide)
  have w16 : H (h_r h0 (h_r h0 pa 1) 0) = z_i h0 (h_r h0 (h_r h0 pa 1) 0) := hw 16 (by decide) (by decide)
  have w17 : H (h_r h0 (h_r h0 pa 1) 1) = z_i h0 (h_r h0 (h_r h0 pa 1) 1) := hw 17 (by decide) (by decide)
  refine ⟨?_, by rw [zz, hp]; exact Bt, ⟨⟨by rw [zz, hp]; exact p1, p2, p3⟩, fun v hv => ⟨fun q hq => ?_, ?_⟩⟩, fun k hk => ?_, fun v hv => ?_, ?_⟩
  · rw [rr]
    exact cs_mv I (by rw [zz, hn]) (by rw [zz, hn]) (fun q _ => by rw [rr, zz, w11])
  · rw [ww, zz, hw (18 + v) (by omega) (by omega)]
    exact (p4 v hv).1 q hq
  · rw [rr, zz, w12]
    exact (p4 v hv).2
  · rw [rr, zz, zz, zz, w13, w14, w15]
    exact b2 k hk
  · rw [rr, zz, zz, w16, w17]
    exact b3 v hv
  · rw [rr]
    have e : h_l h (h_r h0 (h_r h0 pa 1) 2) = h_l h0 (h_r h0 (h_r h0 pa 1) 2) := funext (fun j => (M.2.2.2.1 _ j).trans (hl j))
    rw [e]
    exact b4
section
variable {lv : List (Nat × Value)} {Q : Option Value → MH → Prop} {h0 h : MH} {H : Nat → Nat → Int}
theorem k_drop {nd : Nat} {m f : Int} {xf : Int32} (M : RX h0 h H) (kn : (h_k h0 nd).1 = 3) (em : H nd 5 = m) (m0 : 0 ≤ m) (qf : xf.toInt = f) (g : ∀ (h' : MH) (H' : Nat → Nat → Int), RX h0 h' H' → (∀ q, q ≠ nd → H' q = H q) → H' nd = m_u (m_u (H nd) 5 (if f < m then (if f < 0 then 0 else f) else m)) 6 0 → Q none h') : HJ 46 0 (lv_args 0 [.ref nd, .int xf]) [] h Q := by
  refine hI_al (k := 0) (x := nd) rfl rfl rfl ?_
  refine hM_ic (n := 0) rfl (by decide) rfl (fun x1 q1 => ?_)
  refine hI_al (k := 0) (x := nd) rfl rfl rfl ?_
  refine hR_gi (c := 2) (k := 5) M kn rfl rfl rfl rfl (fun x2 q2 => ?_)
  refine hI_il (k := 1) (x := xf) rfl rfl rfl ?_
  refine hI_min rfl rfl ⟨rfl, by decide +kernel, by show 2 + 13 ≤ m_lo 46; decide +kernel⟩ rfl ?_
  have e1 : (if xf < x2 then xf else x2).toInt = if f < m then f else m := by
    by_cases c : xf < x2
    · have := Int32.lt_iff_toInt_lt.mp c
      rw [if_pos c, if_pos (by omega)]
      exact qf
    · have : ¬ xf.toInt < x2.toInt := fun z => c (Int32.lt_iff_toInt_lt.mpr z)
      rw [if_neg c, if_neg (by omega)]
      omega
  generalize (if xf < x2 then xf else x2) = x3 at e1 ⊢
  refine hI_max rfl rfl ⟨rfl, by decide +kernel, by show 1 + 13 ≤ m_lo 46; decide +kernel⟩ rfl ?_
  have e2 : (if x1 < x3 then x3 else x1).toInt = if f < m then (if f < 0 then 0 else f) else m := by
    by_cases c : x1 < x3
    · have := Int32.lt_iff_toInt_lt.mp c
      rw [if_pos c, e1]
      by_cases d : f < m
      · rw [if_pos d, if_pos d, if_neg (by rw [if_pos d] at e1; omega)]
      · rw [if_neg d, if_neg d]
    · have : ¬ x1.toInt < x3.toInt := fun z => c (Int32.lt_iff_toInt_lt.mpr z)
      rw [if_neg c, q1]
      by_cases d : f < m
      · rw [if_pos d] at e1 ⊢
        by_cases w : f < 0
        · rw [if_pos w]
        · rw [if_neg w]
          omega
      · rw [if_neg d] at e1 ⊢
        omega
  generalize (if x1 < x3 then x3 else x1) = x4 at e2 ⊢
  refine hR_pi (c := 2) (k := 5) M kn rfl rfl ⟨by decide, by decide +kernel, rfl⟩ e2 rfl (fun h5 H5 f5 M5 => ?_)
  refine hI_al (k := 0) (x := nd) rfl rfl rfl ?_
  refine hM_ic (n := 0) rfl (by decide) rfl (fun x6 q6 => ?_)
  refine hR_pi (c := 2) (k := 6) M5 kn rfl rfl ⟨by decide, by decide +kernel, rfl⟩ q6 rfl (fun h7 H7 f7 M7 => ?_)
  exact hI_rv rfl rfl (g h7 H7 M7 (fun q hq => by rw [f7, m_uN _ _ _ _ hq, f5, m_uN _ _ _ _ hq]) (by rw [f7, m_uE, f5, m_uE]))
-- one more holder
theorem r_mh0 {nd : Nat} {v : Int} (M : RX h0 h H) (e0 : m_lk lv 0 = some (.ref nd)) {lx1 : Int32} (e1 : m_lk lv 1 = some (.int lx1)) (lq1 : lx1.toInt = v) {lx2 : Int64} (e2 : m_lk lv 2 = some (.long lx2))  (hk0 : (h_k h0 nd).1 = 3)
    (g0 : v < 0 → HJ 86 22 lv [] h Q)
    (g1 : v ≥ 0 → v ≥ H nd 5 → HJ 86 22 lv [] h Q)
    (g2 : v ≥ 0 → v < H nd 5 → HJ 86 16 lv [.ref (h_r h0 nd 1)] h Q)
    : HJ 86 0 lv [] h Q := by
  refine hI_il (k := 1) rfl e1 rfl ?_ -- 0
  refine hM_zlt (off := 21) (t := 22) rfl lq1 (by decide) rfl (fun c1 => ?_) (fun c1 => ?_) -- 1
  · exact g0 c1
  · refine hI_il (k := 1) rfl e1 rfl ?_ -- 4
    refine hI_al (k := 0) rfl e0 rfl ?_ -- 5
    refine hR_gi (c := 2) (k := 5) M hk0 rfl rfl rfl rfl (fun x1 q1 => ?_) -- 6
    have gb1 : -2147483648 ≤ H nd 5 ∧ H nd 5 ≤ 2147483647 := by rw [← q1]; exact g_iT _
    refine hM_cge (off := 13) (t := 22) rfl lq1 q1 (by decide) rfl (fun c9 => ?_) (fun c9 => ?_) -- 9
    · exact g1 c1 c9
    · refine hI_al (k := 0) rfl e0 rfl ?_ -- 12
      refine hR_gr (c := 2) (k := 1) M hk0 rfl rfl rfl rfl ?_ -- 13
      exact g2 c1 c9
theorem k_mark {nd : Nat} {p : Int} {xp : Int32} {x : Int64} (ok : nl_ok h nd) (qp : xp.toInt = p) (p0 : 0 ≤ p) (p1 : p < z_i h nd 5) (g : Q none (h_sl h (h_r h nd 1) p.toNat (h_l h (h_r h nd 1) p.toNat ||| x))) : HJ 86 0 (lv_args 0 [.ref nd, .int xp, .long x]) [] h Q := by
  have kn := ok.1.1
  obtain ⟨-, -, ⟨d1, d16, dl⟩, -, ⟨m0, m1⟩, -⟩ := ok
  have p1' : p < (h_i h nd 5).toInt := p1
  refine r_mh0 (nd := nd) (RX.start h) rfl rfl qp rfl kn (fun c => absurd c (by omega)) (fun _ c => absurd c (by omega)) (fun _ _ => ?_)
  refine hI_il (k := 1) (x := xp) rfl rfl rfl ?_
  refine hI_dup2 rfl rfl rfl rfl ?_
  refine hI_la rfl d1 (by omega) (by omega) rfl ?_
  refine hI_ll (k := 2) (x := x) rfl rfl rfl ?_
  refine hI_lor rfl rfl ?_
  refine hI_ls_ rfl d16 d1 (by omega) (by omega) rfl ?_
  rw [qp]
  exact hI_rv rfl rfl g
theorem r_mn0 {pa : Nat} {v : Int} (M : RX h0 h H) (e0 : m_lk lv 0 = some (.ref pa)) {lx1 : Int32} (e1 : m_lk lv 1 = some (.int lx1)) (lq1 : lx1.toInt = v) (pv0 : 0 ≤ v) (pv1 : v ≤ 40) (hk0 : (h_k h0 pa).1 = 4) (hk1 : (h_k h0 (h_r h0 pa 0)).1 = 3) (hA0 : (h_k h0 (h_r h0 pa 2)).1 = 33) (hl0 : 41 ≤ ((h_k h0 (h_r h0 pa 2)).2 : Int)) (hs0 : 16 ≤ h_r h0 (h_r h0 pa 0) 4) (hk2 : (h_k h0 (h_r h0 (h_r h0 pa 0) 4)).1 = 8)
    (g0 : ∀ lv1 : List (Nat × Value), m_lk lv1 0 = some (.ref pa) → m_lk lv1 1 = some (.int lx1) → m_lk lv1 2 = some (.ref (h_r h0 (h_r h0 pa 0) 4)) → HJ 74 0 (lv_args 0 [.ref (h_r h0 (h_r h0 pa 0) 4), .ref (h_r h0 pa 0), .ref (h_r h0 (h_r h0 pa 2) (v).toNat)]) [] h (fun v h' => HJ 85 22 lv1 (v.toList ++ []) h' Q))
    : HJ 85 0 lv [] h Q := by
  refine hI_al (k := 0) rfl e0 rfl ?_ -- 0
  refine hR_gr (c := 3) (k := 0) M hk0 rfl rfl rfl rfl ?_ -- 1
  refine hR_gr (c := 2) (k := 4) M hk1 rfl rfl rfl rfl ?_ -- 4
  refine hR_as (k := 2) rfl (by decide +kernel) rfl (fun lv1 e1_2 u1 => ?_) -- 7
  have e1_0 := u1 0 _ (by decide) (Or.inl rfl) e0
  have e1_1 := u1 1 _ (by decide) (Or.inl rfl) e1
  refine hI_al (k := 2) rfl e1_2 rfl ?_ -- 8
  refine hI_al (k := 0) rfl e1_0 rfl ?_ -- 9
  refine hR_gr (c := 3) (k := 0) M hk0 rfl rfl rfl rfl ?_ -- 10
  refine hI_al (k := 0) rfl e1_0 rfl ?_ -- 13
  refine hR_gr (c := 3) (k := 2) M hk0 rfl rfl rfl rfl ?_ -- 14
  refine hI_il (k := 1) rfl e1_1 rfl ?_ -- 17
  refine hR_aa M hA0 lq1 (by omega) (by omega) rfl rfl ?_ -- 18
  refine HJ.call (j := 74) (as := [.ref (h_r h0 (h_r h0 pa 0) 4), .ref (h_r h0 pa 0), .ref (h_r h0 (h_r h0 pa 2) (v).toNat)]) (rr := []) (pc' := 22) (m_cR (kc := 7) rfl rfl (by decide +kernel) rfl rfl rfl ⟨rfl, by decide +kernel, by decide +kernel⟩ (by decide) hs0 (by rw [M.2.1]; exact hk2)) (by show 3 ≤ m_lc 74; decide +kernel) ?_ -- 19
  exact g0 lv1 e1_0 e1_1 e1_2
theorem r_mn22 {pa : Nat} {v : Int} (M : RX h0 h H) (e0 : m_lk lv 0 = some (.ref pa)) {lx1 : Int32} (e1 : m_lk lv 1 = some (.int lx1)) (lq1 : lx1.toInt = v) (e2 : m_lk lv 2 = some (.ref (h_r h0 (h_r h0 pa 0) 4))) 
    (g0 : ∀ x1 : Int32, x1.toInt = 0 → ∀ lv2 : List (Nat × Value), m_lk lv2 0 = some (.ref pa) → m_lk lv2 1 = some (.int lx1) → m_lk lv2 2 = some (.ref (h_r h0 (h_r h0 pa 0) 4)) → m_lk lv2 3 = some (.int x1) → HJ 85 24 lv2 [] h Q)
    : HJ 85 22 lv [] h Q := by
  refine hM_ic (n := 0) rfl (by decide) rfl (fun x1 q1 => ?_) -- 22
  refine hM_si (k := 3) rfl (by decide +kernel) rfl (fun lv2 e2_3 u2 => ?_) -- 23
  have e2_0 := u2 0 _ (by decide) (Or.inl rfl) e0
  have e2_1 := u2 1 _ (by decide) (Or.inl rfl) e1
  have e2_2 := u2 2 _ (by decide) (Or.inl rfl) e2
  exact g0 x1 q1 lv2 e2_0 e2_1 e2_2 e2_3
theorem r_mn24 {pa : Nat} {v i : Int} (M : RX h0 h H) (e0 : m_lk lv 0 = some (.ref pa)) {lx1 : Int32} (e1 : m_lk lv 1 = some (.int lx1)) (lq1 : lx1.toInt = v) (e2 : m_lk lv 2 = some (.ref (h_r h0 (h_r h0 pa 0) 4))) {lx3 : Int32} (e3 : m_lk lv 3 = some (.int lx3)) (lq3 : lx3.toInt = i) (pi0 : 0 ≤ i) (pw1 : H (h_r h0 (h_r h0 pa 0) 4) 8 ≤ 63) (hk0 : (h_k h0 (h_r h0 (h_r h0 pa 0) 4)).1 = 8) (hk1 : (h_k h0 pa).1 = 4) (ha0 : (h_k h0 (h_r h0 (h_r h0 (h_r h0 pa 0) 4) 0)).1 = 20) (hl0 : 63 ≤ ((h_k h0 (h_r h0 (h_r h0 (h_r h0 pa 0) 4) 0)).2 : Int))
    (g0 : i ≥ H (h_r h0 (h_r h0 pa 0) 4) 8 → Q none h)
    (g1 : ∀ x2 : Int32, x2.toInt = H (h_r h0 (h_r h0 (h_r h0 pa 0) 4) 0) (i).toNat → i < H (h_r h0 (h_r h0 pa 0) 4) 8 → HJ 52 0 (lv_args 0 [.int lx1]) [] h (fun v h' => HJ 85 46 lv (v.toList ++ [.int x2, .ref (h_r h0 pa 0)]) h' Q))
    : HJ 85 24 lv [] h Q := by
  refine hI_il (k := 3) rfl e3 rfl ?_ -- 24
  refine hI_al (k := 2) rfl e2 rfl ?_ -- 25
  refine hR_gi (c := 7) (k := 8) M hk0 rfl rfl rfl rfl (fun x1 q1 => ?_) -- 26
  have gb1 : -2147483648 ≤ H (h_r h0 (h_r h0 pa 0) 4) 8 ∧ H (h_r h0 (h_r h0 pa 0) 4) 8 ≤ 2147483647 := by rw [← q1]; exact g_iT _
  refine hM_cge (off := 26) (t := 55) rfl lq3 q1 (by decide) rfl (fun c29 => ?_) (fun c29 => ?_) -- 29
  · refine hI_rv rfl rfl ?_
    exact g0 c29
  · refine hI_al (k := 0) rfl e0 rfl ?_ -- 32
    refine hR_gr (c := 3) (k := 0) M hk1 rfl rfl rfl rfl ?_ -- 33
    refine hI_al (k := 2) rfl e2 rfl ?_ -- 36
    refine hR_gr (c := 7) (k := 0) M hk0 rfl rfl rfl rfl ?_ -- 37
    refine hI_il (k := 3) rfl e3 rfl ?_ -- 40
    refine hR_ia M ha0 lq3 (by omega) (by omega) rfl rfl (fun x2 q2 => ?_) -- 41
    have gb2 : -2147483648 ≤ H (h_r h0 (h_r h0 (h_r h0 pa 0) 4) 0) (i).toNat ∧ H (h_r h0 (h_r h0 (h_r h0 pa 0) 4) 0) (i).toNat ≤ 2147483647 := by rw [← q2]; exact g_iT _
    refine hI_il (k := 1) rfl e1 rfl ?_ -- 42
    refine hM_is0 (as := [.int lx1]) (r := [.int x2, .ref (h_r h0 pa 0)]) rfl rfl (by decide +kernel) rfl rfl rfl rfl rfl ?_ -- 43
    exact g1 x2 q2 c29
theorem r_mn46 {pa : Nat} {v i p : Int} (M : RX h0 h H) (e0 : m_lk lv 0 = some (.ref pa)) {lx1 : Int32} (e1 : m_lk lv 1 = some (.int lx1)) (lq1 : lx1.toInt = v) (e2 : m_lk lv 2 = some (.ref (h_r h0 (h_r h0 pa 0) 4))) {lx3 : Int32} (e3 : m_lk lv 3 = some (.int lx3)) (lq3 : lx3.toInt = i) {sx1 : Int32} (sq1 : sx1.toInt = p) {sx2 : Int64}  (hs0 : 16 ≤ h_r h0 pa 0) (hk0 : (h_k h0 (h_r h0 pa 0)).1 = 3)
    (g0 : HJ 86 0 (lv_args 0 [.ref (h_r h0 pa 0), .int sx1, .long sx2]) [] h (fun v h' => HJ 85 49 lv (v.toList ++ []) h' Q))
    : HJ 85 46 lv [.long sx2, .int sx1, .ref (h_r h0 pa 0)] h Q := by
  refine HJ.call (j := 86) (as := [.ref (h_r h0 pa 0), .int sx1, .long sx2]) (rr := []) (pc' := 49) (m_cR (kc := 2) rfl rfl (by decide +kernel) rfl rfl rfl ⟨rfl, by decide +kernel, by decide +kernel⟩ (by decide) hs0 (by rw [M.2.1]; exact hk0)) (by show 4 ≤ m_lc 86; decide +kernel) ?_ -- 46
  exact g0 
theorem r_mn49 {pa : Nat} {v i : Int} (M : RX h0 h H) (e0 : m_lk lv 0 = some (.ref pa)) {lx1 : Int32} (e1 : m_lk lv 1 = some (.int lx1)) (lq1 : lx1.toInt = v) (e2 : m_lk lv 2 = some (.ref (h_r h0 (h_r h0 pa 0) 4))) {lx3 : Int32} (e3 : m_lk lv 3 = some (.int lx3)) (lq3 : lx3.toInt = i) (pi0 : 0 ≤ i) (pi1 : i ≤ 62)
    (g0 : ∀ x1 : Int32, x1.toInt = i + 1 → ∀ lv1 : List (Nat × Value), m_lk lv1 0 = some (.ref pa) → m_lk lv1 1 = some (.int lx1) → m_lk lv1 2 = some (.ref (h_r h0 (h_r h0 pa 0) 4)) → m_lk lv1 3 = some (.int x1) → HJ 85 24 lv1 [] h Q)
    : HJ 85 49 lv [] h Q := by
  refine hM_inc (k := 3) (z := 1) rfl e3 lq3 (by decide) (by omega) (by omega) (by decide +kernel) rfl (fun lv1 x1 q1 e1_3 u1 => ?_) -- 49
  have e1_0 := u1 0 _ (by decide) (Or.inl rfl) e0
  have e1_1 := u1 1 _ (by decide) (Or.inl rfl) e1
  have e1_2 := u1 2 _ (by decide) (Or.inl rfl) e2
  refine hI_go (pc' := 24) (off := (-28)) rfl (by decide) ?_ -- 52
  exact g0 x1 q1 lv1 e1_0 e1_1 e1_2 e1_3
theorem l_mnR {pa : Nat} {Y : RYt} {v : Int} {O : WKt} {xv : Int32} (ok0 : pa_ok h0 pa) (okO : wk_ok (ry_s Y) O) (w63 : O.1 ≤ 63) (i5 : z_i h0 (h_r h0 pa 0) 5 = (ps_n (ry_s Y) : Int)) {H1 : Nat → Nat → Int} (hnd : H1 (h_r h0 pa 0) = z_i h0 (h_r h0 pa 0)) (P : wl_of h0 H1 (h_r h0 (h_r h0 pa 0) 4) (ry_s Y) O) (qv : xv.toInt = v) (g : ∀ (h' : MH) (L' : Nat → Nat → Int64), RL h0 h' H1 L' → (∀ q, q ≠ h_r h0 (h_r h0 pa 0) 1 → L' q = h_l h0 q) → (∀ j, L' (h_r h0 (h_r h0 pa 0) 1) j = hd_w O (bt v) O.1 (h_l h0 (h_r h0 (h_r h0 pa 0) 1)) j) → Q none h') : ∀ (e i : Nat) (lv : List (Nat × Value)) (h : MH) (L : Nat → Nat → Int64) (xi : Int32), i + e = O.1 → xi.toInt = (i : Int) → RL h0 h H1 L → (∀ q, q ≠ h_r h0 (h_r h0 pa 0) 1 → L q = h_l h0 q) → (∀ j, L (h_r h0 (h_r h0 pa 0) 1) j = hd_w O (bt v) i (h_l h0 (h_r h0 (h_r h0 pa 0) 1)) j) → m_lk lv 0 = some (.ref pa) → m_lk lv 1 = some (.int xv) → m_lk lv 2 = some (.ref (h_r h0 (h_r h0 pa 0) 4)) → m_lk lv 3 = some (.int xi) → HJ 85 24 lv [] h Q := by
  obtain ⟨P1, P2⟩ := P
  have nx := pa_nx ok0
  have w := nx.2.2.2.2.1
  obtain ⟨ka0, kb0, -, kc0⟩ := w.2.1 0 (by decide)
  intro e
  induction e with
  | zero =>
    intro i lv h L xi he qi R hL hD e0 e1 e2 e3
    have ok := nl_RL ok0.2.1 R (by rw [hnd])
    obtain ⟨okp, rr, ww⟩ := pa_RL ok0 R ok
    have z8 : (h_i h (h_r h0 (h_r h0 pa 0) 4) 8).toInt = (O.1 : Int) := (R.2.2.2.2 _ _).trans P1
    exact r_mn24 (pa := pa) (RX.start h) e0 e1 qv (by rw [rr]; exact e2) e3 qi (by omega) (by rw [rr]; show (h_i h (h_r h0 (h_r h0 pa 0) 4) 8).toInt ≤ 63; omega) (by rw [rr, R.2.1]; exact w.1.1) okp.1.1 (by rw [rr, R.2.1]; exact ka0) (by rw [rr, R.2.1]; exact kc0) (fun _ => g h L R hL (by rw [show O.1 = i by omega]; exact hD)) (fun _ _ c => absurd c (by rw [rr]; show ¬ (i : Int) < (h_i h (h_r h0 (h_r h0 pa 0) 4) 8).toInt; omega))
  | succ e ih =>
    intro i lv h L xi he qi R hL hD e0 e1 e2 e3
    have ok := nl_RL ok0.2.1 R (by rw [hnd])
    obtain ⟨okp, rr, ww⟩ := pa_RL ok0 R ok
    have z8 : (h_i h (h_r h0 (h_r h0 pa 0) 4) 8).toInt = (O.1 : Int) := (R.2.2.2.2 _ _).trans P1
    refine r_mn24 (pa := pa) (RX.start h) e0 e1 qv (by rw [rr]; exact e2) e3 qi (by omega) (by rw [rr]; show (h_i h (h_r h0 (h_r h0 pa 0) 4) 8).toInt ≤ 63; omega) (by rw [rr, R.2.1]; exact w.1.1) okp.1.1 (by rw [rr, R.2.1]; exact ka0) (by rw [rr, R.2.1]; exact kc0) (fun c => absurd c (by rw [rr]; show ¬ (i : Int) ≥ (h_i h (h_r h0 (h_r h0 pa 0) 4) 8).toInt; omega)) (fun x2 q2 _ => ?_)
    have q2 : x2.toInt = O.2.1 i := by
      rw [q2, rr, Int.toNat_natCast]
      exact (R.2.2.2.2 _ _).trans (P2 i (by omega)).1
    obtain ⟨⟨o0, o1⟩, -, -⟩ := okO i (by omega)
    refine k_bit (RX.start h) qv ?_
    have nd' : h_r h pa 0 = h_r h0 pa 0 := by rw [rr]
    refine r_mn46 (pa := pa) (RX.start h) e0 e1 qv (by rw [rr]; exact e2) e3 qi q2 (by rw [nd']; exact ok.1.2.1) (by rw [nd']; exact ok.1.1) ?_
    rw [nd']
    refine k_mark ok q2 o0 ?_ ?_
    · rw [R.2.2.2.2, hnd, i5]
      exact o1
    · have R2 := R.sl (o := h_r h (h_r h0 pa 0) 1) (j := (O.2.1 i).toNat) (x := h_l h (h_r h (h_r h0 pa 0) 1) (O.2.1 i).toNat ||| bt v)
      generalize h_sl h (h_r h (h_r h0 pa 0) 1) (O.2.1 i).toNat (h_l h (h_r h (h_r h0 pa 0) 1) (O.2.1 i).toNat ||| bt v) = h2 at R2 ⊢
      have rr2 : h_r h2 = h_r h0 := R2.2.2.1
      refine r_mn49 (pa := pa) (RX.start h2) e0 e1 qv (by rw [rr2]; exact e2) e3 qi (by omega) (by omega) (fun x5 q5 lv1 a0 a1 a2 a3 => ?_)
      refine ih (i + 1) lv1 h2 _ x5 (by omega) (by omega) R2 (fun q hq => funext (fun j => ?_)) (fun j => ?_) a0 a1 (by rw [rr2] at a2; exact a2) a3
      · show (if q = h_r h (h_r h0 pa 0) 1 ∧ j = (O.2.1 i).toNat then _ else L q j) = _
        rw [rr, if_neg (fun z => hq z.1), hL q hq]
      · show (if h_r h0 (h_r h0 pa 0) 1 = h_r h (h_r h0 pa 0) 1 ∧ j = (O.2.1 i).toNat then h_l h (h_r h (h_r h0 pa 0) 1) (O.2.1 i).toNat ||| bt v else L (h_r h0 (h_r h0 pa 0) 1) j) = (if j = (O.2.1 i).toNat then hd_w O (bt v) i (h_l h0 (h_r h0 (h_r h0 pa 0) 1)) j ||| bt v else hd_w O (bt v) i (h_l h0 (h_r h0 (h_r h0 pa 0) 1)) j)
        rw [rr]
        by_cases cj : j = (O.2.1 i).toNat
        · rw [if_pos ⟨rfl, cj⟩, if_pos cj, R.2.2.2.1, cj, hD]
        · rw [if_neg (fun z => cj z.2), if_neg cj]
          exact hD j
theorem k_marks {pa : Nat} {Y : RYt} {k v : Nat} {xv : Int32} (ok : pa_ok h pa) (B : pk_of h pa Y) (O : ry_ok Y k) (hv : v < ry_v Y) (qv : xv.toInt = (v : Int)) (g : ∀ (h' : MH) (H' : Nat → Nat → Int) (L' : Nat → Nat → Int64), RL h h' H' L' → wl_fr h (h_r h (h_r h pa 0) 4) (z_i h) H' → (∀ q, q ≠ h_r h (h_r h pa 0) 1 → L' q = h_l h q) → (∀ j, L' (h_r h (h_r h pa 0) 1) j = hd_w (wk_all (ry_s Y) (ry_h Y (v : Int))) (bt (v : Int)) (wk_all (ry_s Y) (ry_h Y (v : Int))).1 (h_l h (h_r h (h_r h pa 0) 1)) j) → Q none h') : HJ 85 0 (lv_args 0 [.ref pa, .int xv]) [] h Q := by
  have nx := pa_nx ok
  have w := nx.2.2.2.2.1
  have r := ok.2.2.2.1
  obtain ⟨I, Bt, ⟨⟨p1, p2, p3⟩, p4⟩, -⟩ := B
  have M := RX.start h
  refine r_mn0 M rfl rfl qv (by omega) (by omega) ok.1.1 nx.1.1.1 r.1 (by omega) w.1.2.1 w.1.1 (fun lv1 e0 e1 e2 => ?_)
  rw [Int.toNat_natCast]
  have hx := pa_hx ok (i := 18 + v) (by omega) (by omega) (by omega) (by omega) (by omega)
  have er := (p4 v hv).1
  rw [pa_wr] at hx er
  obtain ⟨n_, c_, h_⟩ := lw_Yr nx hx
  obtain ⟨okO, wO⟩ := wk_allI O.1.1 (O.1.2 v hv)
  have L := p_wsL (f := ry_h Y v) 6
  have e6 : (2 : Nat) ^ 6 = 64 := by decide
  rw [e6] at L
  refine k_look M w (nl_nd ok.2.1 I.1) I n_ c_ hx.1.1 h_ er O.1.1 (O.1.2 v hv) (fun h1 H1 M1 fr P => ?_)
  refine r_mn22 M1 e0 e1 qv e2 (fun x1 q1 lv2 d0 d1 d2 d3 => ?_)
  exact l_mnR (v := (v : Int)) ok okO (by omega) I.1 (by rw [fr _ n_.1 n_.2]; rfl) P qv (fun h' L' R hL hD => g h' H1 L' R fr hL hD) (wk_all (ry_s Y) (ry_h Y v)).1 0 lv2 h1 (h_l h) x1 (by omega) q1 (RL.ofRX M1) (fun _ _ => rfl) (fun _ => rfl) d0 d1 d2 d3
-- what marking a version leaves
theorem mk_all {h' : MH} {pa : Nat} {Y : RYt} {H' : Nat → Nat → Int} {L' : Nat → Nat → Int64} (ok : pa_ok h pa) (B : pk_of h pa Y) (R : RL h h' H' L') (fr : wl_fr h (h_r h (h_r h pa 0) 4) (z_i h) H') (hL : ∀ q, q ≠ h_r h (h_r h pa 0) 1 → L' q = h_l h q) : nl_ok h' (h_r h pa 0) ∧ pk_of h' pa Y ∧ FW (h_r h pa 0) (run_Y h pa) h h' ∧ h_r h' = h_r h := by
  have ap : ∀ q, q ≠ h_r h (h_r h pa 0) 4 → (∀ i, i < 7 → q ≠ pa_w h pa i) → H' q = z_i h q := fun q h1 h2 => fr q h1 (fun k hk => by rw [← pa_wk (h := h) (pa := pa) hk]; exact h2 k hk)
  have pn := pa_ne ok (i := 0) (by decide)
  have hn : H' (h_r h pa 0) = z_i h (h_r h pa 0) := ap _ (fun z => by have a := ok.2.1.1.1; rw [z, ok.2.2.1.1] at a; omega) (fun i hi => (pa_ne ok (i := i) (by omega)).2.1)
  have hp : H' pa = z_i h pa := ap _ pn.2.2.2.2.1 (fun i hi => (pa_ne ok (i := i) (by omega)).1)
  have hw : ∀ i, 7 ≤ i → i < 59 → H' (pa_w h pa i) = z_i h (pa_w h pa i) := fun i h1 h2 => ap _ (Ne.symm (pa_ne ok h2).2.2.1) (fun j hj => ok.2.2.2.2.2.2.2 i j h2 (by omega) (by omega))
  have ok' := nl_RL ok.2.1 R (by rw [hn])
  obtain ⟨f1, f2, f3, f4, f5⟩ := pa_fr ok
  refine ⟨ok', pk_RL ok R hw hn hp (fun j => by rw [hL _ f5]) B, FW.ofRL R (fun a ha => ⟨fun j => ?_, fun j => ?_⟩), R.2.2.1⟩
  · rw [ap a (fun z => ha (Or.inr (Or.inr (Or.inr (Or.inr (Or.inl z)))))) (fun i hi z => ha (Or.inr (Or.inr (Or.inr (Or.inr (Or.inr (Or.inl ⟨i, by omega, z⟩))))))) ]
  · rw [hL a (fun z => ha (Or.inr (Or.inr (Or.inl z))))]
theorem r_ra0 {pa ac : Nat} (M : RX h0 h H) (e0 : m_lk lv 0 = some (.ref pa)) (e1 : m_lk lv 1 = some (.ref ac))  (hk0 : (h_k h0 pa).1 = 4) (hs0 : 16 ≤ h_r h0 pa 0) (hk1 : (h_k h0 (h_r h0 pa 0)).1 = 3)
    (g0 : ∀ x1 : Int32, x1.toInt = 0 → HJ 46 0 (lv_args 0 [.ref (h_r h0 pa 0), .int x1]) [] h (fun v h' => HJ 45 8 lv (v.toList ++ []) h' Q))
    : HJ 45 0 lv [] h Q := by
  refine hI_al (k := 0) rfl e0 rfl ?_ -- 0
  refine hR_gr (c := 3) (k := 0) M hk0 rfl rfl rfl rfl ?_ -- 1
  refine hM_ic (n := 0) rfl (by decide) rfl (fun x1 q1 => ?_) -- 4
  refine HJ.call (j := 46) (as := [.ref (h_r h0 pa 0), .int x1]) (rr := []) (pc' := 8) (m_cR (kc := 2) rfl rfl (by decide +kernel) rfl rfl rfl ⟨rfl, by decide +kernel, by decide +kernel⟩ (by decide) hs0 (by rw [M.2.1]; exact hk1)) (by show 2 ≤ m_lc 46; decide +kernel) ?_ -- 5
  exact g0 x1 q1
theorem r_ra8 {pa ac : Nat} (M : RX h0 h H) (e0 : m_lk lv 0 = some (.ref pa)) (e1 : m_lk lv 1 = some (.ref ac))  (hk0 : (h_k h0 pa).1 = 4)
    (g0 : ∀ h2 : MH, ∀ H2 : Nat → Nat → Int, H2 = m_u H pa (m_u (H pa) 12 (0)) → ∀ h4 : MH, ∀ H4 : Nat → Nat → Int, H4 = m_u H2 pa (m_u (H2 pa) 11 (0)) → ∀ x5 : Int32, x5.toInt = (-1) → RX h0 h4 H4 → HJ 48 0 (lv_args 0 [.ref (h_r h0 pa 7), .int x5]) [] h4 (fun v h' => HJ 45 26 lv (v.toList ++ []) h' Q))
    : HJ 45 8 lv [] h Q := by
  refine hI_al (k := 0) rfl e0 rfl ?_ -- 8
  refine hM_ic (n := 0) rfl (by decide) rfl (fun x1 q1 => ?_) -- 9
  refine hR_pi (c := 3) (k := 12) M hk0 rfl rfl ⟨by decide, by decide +kernel, rfl⟩ q1 rfl (fun h2 H2 f2 M2 => ?_) -- 10
  refine hI_al (k := 0) rfl e0 rfl ?_ -- 13
  refine hM_ic (n := 0) rfl (by decide) rfl (fun x3 q3 => ?_) -- 14
  refine hR_pi (c := 3) (k := 11) M2 hk0 rfl rfl ⟨by decide, by decide +kernel, rfl⟩ q3 rfl (fun h4 H4 f4 M4 => ?_) -- 15
  refine hI_al (k := 0) rfl e0 rfl ?_ -- 18
  refine hR_gr (c := 3) (k := 7) M4 hk0 rfl rfl rfl rfl ?_ -- 19
  refine hM_ic (n := (-1)) rfl (by decide) rfl (fun x5 q5 => ?_) -- 22
  refine hM_is0 (as := [.ref (h_r h0 pa 7), .int x5]) (r := []) rfl rfl (by decide +kernel) rfl rfl rfl rfl rfl ?_ -- 23
  exact g0 h2 H2 f2 h4 H4 f4 x5 q5 M4
theorem r_ra26 {pa ac : Nat} (M : RX h0 h H) (e0 : m_lk lv 0 = some (.ref pa)) (e1 : m_lk lv 1 = some (.ref ac))  (hs0 : 16 ≤ pa) (hk0 : (h_k h0 pa).1 = 4)
    (g0 : HJ 49 0 (lv_args 0 [.ref pa]) [] h (fun v h' => HJ 45 30 lv (v.toList ++ []) h' Q))
    : HJ 45 26 lv [] h Q := by
  refine hI_al (k := 0) rfl e0 rfl ?_ -- 26
  refine HJ.call (j := 49) (as := [.ref pa]) (rr := []) (pc' := 30) (m_cR (kc := 3) rfl rfl (by decide +kernel) rfl rfl rfl ⟨rfl, by decide +kernel, by decide +kernel⟩ (by decide) hs0 (by rw [M.2.1]; exact hk0)) (by show 1 ≤ m_lc 49; decide +kernel) ?_ -- 27
  exact g0 
theorem r_ra30 {pa ac : Nat} (M : RX h0 h H) (e0 : m_lk lv 0 = some (.ref pa)) (e1 : m_lk lv 1 = some (.ref ac))  (hk0 : (h_k h0 pa).1 = 4) (hs0 : 16 ≤ h_r h0 pa 1) (hk1 : (h_k h0 (h_r h0 pa 1)).1 = 2)
    (g0 : ∀ x1 : Int32, x1.toInt = 0 → ∀ x2 : Int32, x2.toInt = (-1) → ∀ x3 : Int32, x3.toInt = (-1) → HJ 51 0 (lv_args 0 [.ref (h_r h0 pa 1), .int x1, .int x2, .int x3]) [] h (fun v h' => HJ 45 40 lv (v.toList ++ []) h' Q))
    : HJ 45 30 lv [] h Q := by
  refine hI_al (k := 0) rfl e0 rfl ?_ -- 30
  refine hR_gr (c := 3) (k := 1) M hk0 rfl rfl rfl rfl ?_ -- 31
  refine hM_ic (n := 0) rfl (by decide) rfl (fun x1 q1 => ?_) -- 34
  refine hM_ic (n := (-1)) rfl (by decide) rfl (fun x2 q2 => ?_) -- 35
  refine hM_ic (n := (-1)) rfl (by decide) rfl (fun x3 q3 => ?_) -- 36
  refine HJ.call (j := 51) (as := [.ref (h_r h0 pa 1), .int x1, .int x2, .int x3]) (rr := []) (pc' := 40) (m_cR (kc := 1) rfl rfl (by decide +kernel) rfl rfl rfl ⟨rfl, by decide +kernel, by decide +kernel⟩ (by decide) hs0 (by rw [M.2.1]; exact hk1)) (by show 4 ≤ m_lc 51; decide +kernel) ?_ -- 37
  exact g0 x1 q1 x2 q2 x3 q3
theorem r_ra40 {pa ac : Nat} (M : RX h0 h H) (e0 : m_lk lv 0 = some (.ref pa)) (e1 : m_lk lv 1 = some (.ref ac)) 
    (g0 : ∀ x1 : Int32, x1.toInt = 1 → ∀ x3 : Int32, x3.toInt = 0 → ∀ lv4 : List (Nat × Value), m_lk lv4 0 = some (.ref pa) → m_lk lv4 1 = some (.ref ac) → m_lk lv4 2 = some (.int x1) → m_lk lv4 3 = some (.int x3) → HJ 45 44 lv4 [] h Q)
    : HJ 45 40 lv [] h Q := by
  refine hM_ic (n := 1) rfl (by decide) rfl (fun x1 q1 => ?_) -- 40
  refine hM_si (k := 2) rfl (by decide +kernel) rfl (fun lv2 e2_2 u2 => ?_) -- 41
  have e2_0 := u2 0 _ (by decide) (Or.inl rfl) e0
  have e2_1 := u2 1 _ (by decide) (Or.inl rfl) e1
  refine hM_ic (n := 0) rfl (by decide) rfl (fun x3 q3 => ?_) -- 42
  refine hM_si (k := 3) rfl (by decide +kernel) rfl (fun lv4 e4_3 u4 => ?_) -- 43
  have e4_0 := u4 0 _ (by decide) (Or.inl rfl) e2_0
  have e4_1 := u4 1 _ (by decide) (Or.inl rfl) e2_1
  have e4_2 := u4 2 _ (by decide) (Or.inl rfl) e2_2
  exact g0 x1 q1 x3 q3 lv4 e4_0 e4_1 e4_2 e4_3
theorem r_ra125 {pa ac : Nat} (M : RX h0 h H) (e0 : m_lk lv 0 = some (.ref pa)) (e1 : m_lk lv 1 = some (.ref ac)) 
    (g0 : ∀ x1 : Int32, x1.toInt = 0 → ∀ lv2 : List (Nat × Value), m_lk lv2 0 = some (.ref pa) → m_lk lv2 1 = some (.ref ac) → m_lk lv2 3 = some (.int x1) → HJ 45 127 lv2 [] h Q)
    : HJ 45 125 lv [] h Q := by
  refine hM_ic (n := 0) rfl (by decide) rfl (fun x1 q1 => ?_) -- 125
  refine hM_si (k := 3) rfl (by decide +kernel) rfl (fun lv2 e2_3 u2 => ?_) -- 126
  have e2_0 := u2 0 _ (by decide) (Or.inl rfl) e0
  have e2_1 := u2 1 _ (by decide) (Or.inl rfl) e1
  exact g0 x1 q1 lv2 e2_0 e2_1 e2_3
theorem r_ra127 {pa ac : Nat} {v : Int} (M : RX h0 h H) (e0 : m_lk lv 0 = some (.ref pa)) (e1 : m_lk lv 1 = some (.ref ac)) {lx3 : Int32} (e3 : m_lk lv 3 = some (.int lx3)) (lq3 : lx3.toInt = v)  (hk0 : (h_k h0 pa).1 = 4) (hs0 : 16 ≤ pa)
    (g0 : v > H pa 11 → Q none h)
    (g1 : v ≤ H pa 11 → HJ 85 0 (lv_args 0 [.ref pa, .int lx3]) [] h (fun v h' => HJ 45 140 lv (v.toList ++ []) h' Q))
    : HJ 45 127 lv [] h Q := by
  refine hI_il (k := 3) rfl e3 rfl ?_ -- 127
  refine hI_al (k := 0) rfl e0 rfl ?_ -- 128
  refine hR_gi (c := 3) (k := 11) M hk0 rfl rfl rfl rfl (fun x1 q1 => ?_) -- 129
  have gb1 : -2147483648 ≤ H pa 11 ∧ H pa 11 ≤ 2147483647 := by rw [← q1]; exact g_iT _
  refine hM_cgt (off := 14) (t := 146) rfl lq3 q1 (by decide) rfl (fun c132 => ?_) (fun c132 => ?_) -- 132
  · refine hI_rv rfl rfl ?_
    exact g0 c132
  · refine hI_al (k := 0) rfl e0 rfl ?_ -- 135
    refine hI_il (k := 3) rfl e3 rfl ?_ -- 136
    refine HJ.call (j := 85) (as := [.ref pa, .int lx3]) (rr := []) (pc' := 140) (m_cR (kc := 3) rfl rfl (by decide +kernel) rfl rfl rfl ⟨rfl, by decide +kernel, by decide +kernel⟩ (by decide) hs0 (by rw [M.2.1]; exact hk0)) (by show 2 ≤ m_lc 85; decide +kernel) ?_ -- 137
    exact g1 c132
theorem r_ra140 {pa ac : Nat} {v : Int} (M : RX h0 h H) (e0 : m_lk lv 0 = some (.ref pa)) (e1 : m_lk lv 1 = some (.ref ac)) {lx3 : Int32} (e3 : m_lk lv 3 = some (.int lx3)) (lq3 : lx3.toInt = v) (pv0 : 0 ≤ v) (pv1 : v ≤ 40)
    (g0 : ∀ x1 : Int32, x1.toInt = v + 1 → ∀ lv1 : List (Nat × Value), m_lk lv1 0 = some (.ref pa) → m_lk lv1 1 = some (.ref ac) → m_lk lv1 3 = some (.int x1) → HJ 45 127 lv1 [] h Q)
    : HJ 45 140 lv [] h Q := by
  refine hM_inc (k := 3) (z := 1) rfl e3 lq3 (by decide) (by omega) (by omega) (by decide +kernel) rfl (fun lv1 x1 q1 e1_3 u1 => ?_) -- 140
  have e1_0 := u1 0 _ (by decide) (Or.inl rfl) e0
  have e1_1 := u1 1 _ (by decide) (Or.inl rfl) e1
  refine hI_go (pc' := 127) (off := (-16)) rfl (by decide) ?_ -- 143
  exact g0 x1 q1 lv1 e1_0 e1_1 e1_3
theorem run_Yr {h' : MH} {pa q : Nat} (rr : h_r h' = h_r h) (z : run_Y h' pa q) : run_Y h pa q := by
  have ww : ∀ i, pa_w h' pa i = pa_w h pa i := fun i => by
    unfold pa_w
    rw [rr]
  rcases z with z | z | ⟨i, hi, z⟩ | z
  · exact Or.inl z
  · exact Or.inr (Or.inl (by rw [rr] at z; exact z))
  · exact Or.inr (Or.inr (Or.inl ⟨i, hi, by rw [← ww]; exact z⟩))
  · exact Or.inr (Or.inr (Or.inr (by rw [rr] at z; exact z)))
theorem l_raM {pa ac k : Nat} {Y : RYt} {L0 : Nat → Int64} (O : ry_ok Y k) (g : ∀ h' : MH, pa_ok h' pa → pk_of h' pa Y → FW (h_r h0 pa 0) (run_Y h0 pa) h0 h' → h_r h' = h_r h0 → (∀ j, h_l h' (h_r h' (h_r h' pa 0) 1) j = hd_n (ry_s Y) (ry_h Y) L0 (ry_v Y) j) → Q none h') : ∀ (e v : Nat) (lv : List (Nat × Value)) (h : MH) (xv : Int32), v + e = ry_v Y → xv.toInt = (v : Int) → pa_ok h pa → pk_of h pa Y → FW (h_r h0 pa 0) (run_Y h0 pa) h0 h → h_r h = h_r h0 → (∀ j, h_l h (h_r h (h_r h pa 0) 1) j = hd_n (ry_s Y) (ry_h Y) L0 v j) → m_lk lv 0 = some (.ref pa) → m_lk lv 1 = some (.ref ac) → m_lk lv 3 = some (.int xv) → HJ 45 127 lv [] h Q := by
  intro e
  induction e with
  | zero =>
    intro v lv h xv he qv ok B F rr hD e0 e1 e3
    have p1 : (h_i h pa 11).toInt + 1 = (ry_v Y : Int) := B.2.2.1.1.1
    refine r_ra127 (RX.start h) e0 e1 e3 qv ok.1.1 ok.1.2.1 (fun _ => g h ok B F rr (by rw [show ry_v Y = v by omega]; exact hD)) (fun c => absurd c (by omega))
  | succ e ih =>
    intro v lv h xv he qv ok B F rr hD e0 e1 e3
    have p1 : (h_i h pa 11).toInt + 1 = (ry_v Y : Int) := B.2.2.1.1.1
    have p3 := B.2.2.1.1.2.2
    refine r_ra127 (RX.start h) e0 e1 e3 qv ok.1.1 ok.1.2.1 (fun c => absurd c (by omega)) (fun _ => ?_)
    refine k_marks ok B O (by omega) qv (fun h2 H2 L2 R2 fr2 hL2 hD2 => ?_)
    obtain ⟨ok2, B2, F2, rr2⟩ := mk_all ok B R2 fr2 hL2
    obtain ⟨okp2, -, -⟩ := pa_RL ok R2 ok2
    refine r_ra140 (RX.start h2) e0 e1 e3 qv (by omega) (by omega) (fun x1 q1 lv1 a0 a1 a3 => ?_)
    have nd' : h_r h pa 0 = h_r h0 pa 0 := by rw [rr]
    refine ih (v + 1) lv1 h2 x1 (by omega) (by omega) okp2 B2 (F.trans2 (by rw [← nd']; exact F2) (fun q _ z => Or.inl (run_Yr rr z))) (rr2.trans rr) (fun j => ?_) a0 a1 a3
    rw [rr2]
    show h_l h2 (h_r h (h_r h pa 0) 1) j = hd_w (wk_all (ry_s Y) (ry_h Y (v : Int))) (bt (v : Int)) (wk_all (ry_s Y) (ry_h Y (v : Int))).1 (hd_n (ry_s Y) (ry_h Y) L0 v) j
    rw [R2.2.2.2.1, hD2, show h_l h (h_r h (h_r h pa 0) 1) = hd_n (ry_s Y) (ry_h Y) L0 v from funext hD]
theorem hd_wC {O : WKt} {x : Int64} {L L' : Nat → Int64} {j : Nat} (e : L j = L' j) : ∀ i, hd_w O x i L j = hd_w O x i L' j
  | 0 => e
  | i + 1 => by
    show (if j = (O.2.1 i).toNat then hd_w O x i L j ||| x else hd_w O x i L j) = (if j = (O.2.1 i).toNat then hd_w O x i L' j ||| x else hd_w O x i L' j)
    rw [hd_wC e i]
theorem hd_nC {S : PSt} {f : Int → Nat → Int} {L L' : Nat → Int64} {j : Nat} (e : L j = L' j) : ∀ u, hd_n S f L u j = hd_n S f L' u j
  | 0 => e
  | u + 1 => hd_wC (hd_nC e u) _
theorem k_runAll {pa ac N : Nat} {T : Nat → Int} (ok : pa_ok h pa) (ao : ac_ok h pa ac) (A : ac_of (z_i h) ac (h_r h ac 0) (h_r h ac 1) T N) (N40 : N ≤ 40) (av : ∀ k, k < N → av_2 T k) (g : ∀ (h' : MH) (k : Nat), k ≤ N → ry_ok (ry_run T N).1 k → pa_ok h' pa → pk_of h' pa (ry_run T N).1 → FW (h_r h pa 0) (run_Y h pa) h h' → hd_0 h' pa (ry_run T N).1 → Q none h') : HJ 45 0 (lv_args 0 [.ref pa, .ref ac]) [] h Q := by
  have nx := pa_nx ok
  have c := ok.2.2.2.2.2.2.2
  have b := ok.2.2.2.2.2.2.1
  have M := RX.start h
  have pn := pa_ne ok (i := 7) (by decide)
  have m0 := ok.2.1.2.2.2.2.1
  refine r_ra0 M rfl rfl ok.1.1 nx.1.1.2.1 nx.1.1.1 (fun x1 q1 => ?_)
  refine k_drop (m := z_i h (h_r h pa 0) 5) M nx.1.1.1 rfl m0.1 q1 (fun h1 H1 M1 o1 n1 => ?_)
  refine r_ra8 M1 rfl rfl ok.1.1 (fun h2 H2 f2 h4 H4 f4 x5 q5 M4 => ?_)
  have l7 : (h_k h (h_r h pa 7)).2 ≤ 1000000 := (b 7 (by decide)).2.2.2.2
  have a7 := pa_ap ok (i := 7) (by decide) (by decide)
  rw [show pa_w h pa 7 = h_r h pa 7 from rfl] at a7
  refine k_fill M4 a7.1.1 a7.1.2.1 l7 q5 (fun h5 H5 M5 p1 p2 => ?_)
  have p7 := pn.1
  rw [show pa_w h pa 7 = h_r h pa 7 from rfl] at p7
  have n7 := pn.2.1
  rw [show pa_w h pa 7 = h_r h pa 7 from rfl] at n7
  have e5pa : ∀ q, H5 pa q = if q = 11 then 0 else if q = 12 then 0 else z_i h pa q := fun q => by
    rw [p1 pa p7, f4, m_uE]
    by_cases c1 : q = 11
    · rw [if_pos c1, c1, m_uE]
    · rw [if_neg c1, m_uN _ _ _ _ c1, f2, m_uE]
      by_cases c2 : q = 12
      · rw [if_pos c2, c2, m_uE]
      · rw [if_neg c2, m_uN _ _ _ _ c2, o1 pa pn.2.2.2.1]
        rfl
  have e5o : ∀ q, q ≠ h_r h pa 7 → q ≠ pa → q ≠ h_r h pa 0 → H5 q = z_i h q := fun q h1 h2 h3 => by
    rw [p1 q h1, f4, m_uN _ _ _ _ h2, f2, m_uN _ _ _ _ h2, o1 q h3]
    rfl
  have e5n : H5 (h_r h pa 0) = H1 (h_r h pa 0) := by rw [p1 _ n7, f4, m_uN _ _ _ _ (Ne.symm pn.2.2.2.1), f2, m_uN _ _ _ _ (Ne.symm pn.2.2.2.1)]
  have e5n5 : H5 (h_r h pa 0) 5 = 0 := by
    rw [e5n, n1, m_uN _ _ _ _ (by decide), m_uE]
    by_cases cc : (0 : Int) < z_i h (h_r h pa 0) 5
    · rw [if_pos cc, if_neg (by decide)]
    · rw [if_neg cc]
      omega
  have e5n6 : H5 (h_r h pa 0) 6 = 0 := by rw [e5n, n1, m_uE]
  refine r_ra26 M5 rfl rfl ok.1.2.1 ok.1.1 ?_
  refine k_keep (f := fun _ => -1) (s := 0) M5 ok (by rw [e5pa, if_pos rfl]; rfl) (by decide) (fun q hq => p2 q (by have := a7.1.2.2; omega)) (fun h6 H6 M6 o6 r6 s6 => ?_)
  obtain ⟨li, lne⟩ := pa_li ok
  refine r_ra30 M6 rfl rfl ok.1.1 li.1.2 li.1.1 (fun x7 q7 x8 q8 x9 q9 => ?_)
  refine k_lines (v := 0) M6 li lne q7 (by decide) q8 q9 (by decide) (by decide) (fun h7 H7 R7 o7 f7 s7 => ?_)
  have rr : h_r h7 = h_r h := R7.2.2.1
  have zz : ∀ a j, z_i h7 a j = H7 a j := R7.2.2.2.2
  have ww : ∀ i, pa_w h7 pa i = pa_w h pa i := fun i => by
    unfold pa_w
    rw [rr]
  have r0 := pa_ne ok (i := 18 + 0) (by decide)
  have r3 := pa_ne ok (i := 12) (by decide)
  have r16 := pa_ne ok (i := 16) (by decide)
  have r17 := pa_ne ok (i := 17) (by decide)
  have e7n : H7 (h_r h pa 0) = H5 (h_r h pa 0) := by rw [o7 _ r16.2.1 r17.2.1, o6 _ r0.2.1 r3.2.1]
  have e7p : H7 pa = H5 pa := by rw [o7 _ r16.1 r17.1, o6 _ r0.1 r3.1]
  have ok7 : nl_ok h7 (h_r h pa 0) := by
    have := ok.2.1
    unfold nl_ok at this ⊢
    have nn : h_n h7 = h_n h := by
      have := R7.1
      unfold h_n
      rw [this]
    rw [nn, R7.2.1, rr, zz, e7n, e5n5]
    obtain ⟨u1, u2, u3, u4, u5, u6⟩ := this
    exact ⟨u1, u2, u3, u4, ⟨Int.le_refl _, by omega⟩, u6⟩
  obtain ⟨okp, -, -⟩ := pa_RL ok R7 ok7
  obtain ⟨f1, f2_, f3_, f4_, f5_⟩ := pa_fr ok
  have B7 : pk_of h7 pa (ry_run T 0).1 := by
    refine ⟨?_, ?_, ⟨⟨?_, ?_, ?_⟩, fun v hv => ?_⟩, fun k hk => ?_, fun v hv => ?_, fun v hv => ?_⟩
    · rw [rr]
      exact ⟨by rw [zz, e7n, e5n5]; rfl, by rw [zz, e7n, e5n6]; rfl, ⟨Int.le_refl _, Int.le_refl _⟩, Nat.zero_le _, fun v hv => absurd hv (Nat.not_lt_zero v)⟩
    · rw [zz, e7p, e5pa, if_neg (by decide), if_pos rfl]
      rfl
    · rw [zz, e7p, e5pa, if_pos rfl]
      rfl
    · exact Nat.le_refl _
    · show 1 ≤ 41
      decide
    · have v0 : v = 0 := by
        have : v < 1 := hv
        omega
      subst v0
      refine ⟨fun q hq => ?_, ?_⟩
      · rw [ww, zz, o7 _ (c _ 16 (by decide) (by decide) (by decide)) (c _ 17 (by decide) (by decide) (by decide)), r6 q hq]
        rfl
      · rw [rr, zz, o7 (h_r h pa 3) (c 12 16 (by decide) (by decide) (by decide)) (c 12 17 (by decide) (by decide) (by decide)), s6, m_uE]
        rfl
    · have : k + 1 < 1 := hk
      omega
    · have v0 : v = 0 := by
        have : v < 1 := hv
        omega
      subst v0
      rw [rr, zz, zz, f7, s7, m_uE, m_uE]
      exact ⟨rfl, rfl⟩
    · have v0 : v = 0 := by
        have : v < 1 := hv
        omega
      subst v0
      rw [rr]
      refine (R7.2.2.2.1 _ 0).trans ?_
      show (if h_r h (h_r h pa 1) 2 = h_r h (h_r h pa 1) 2 ∧ (0 : Nat) = 0 then _ else _) = _
      rw [if_pos ⟨rfl, rfl⟩]
      rfl
  have F7 : FW (h_r h pa 0) (run_Y h pa) h h7 := by
    refine FW.ofRL R7 (fun a ha => ⟨fun j => ?_, fun j => ?_⟩)
    · have nY : ∀ i, i < 59 → a ≠ pa_w h pa i := fun i hi z => ha (Or.inr (Or.inr (Or.inr (Or.inr (Or.inr (Or.inl ⟨i, hi, z⟩))))))
      rw [o7 a (nY 16 (by decide)) (nY 17 (by decide)), o6 a (nY _ (by decide)) (nY 12 (by decide)), e5o a (nY 7 (by decide)) (fun z => ha (Or.inr (Or.inr (Or.inr (Or.inl z))))) (fun z => ha (Or.inl z))]
    · show (if a = h_r h (h_r h pa 1) 2 ∧ j = 0 then _ else h_l h a j) = _
      rw [if_neg (fun z => ha (Or.inr (Or.inr (Or.inr (Or.inr (Or.inr (Or.inr z.1)))))))]
  · have ao7 : ac_ok h7 pa ac ∧ ac_of (z_i h7) ac (h_r h7 ac 0) (h_r h7 ac 1) T N := by
      obtain ⟨⟨a1, a2, a3⟩, ⟨b1, b2, b3⟩, ⟨c1, c2, c3⟩, d⟩ := ao
      have nn : h_n h7 = h_n h := by
        have := R7.1
        unfold h_n
        rw [this]
      have same : ∀ q, (h_k h q).1 = 20 → (∀ i, i < 59 → q ≠ pa_w h pa i) → H7 q = z_i h q := fun q qk qw => by
        rw [o7 _ (qw 16 (by decide)) (qw 17 (by decide)), o6 _ (qw _ (by decide)) (qw 12 (by decide)), e5o q (qw 7 (by decide)) (fun z => by rw [z, ok.1.1] at qk; omega) (fun z => by rw [z, ok.2.1.1.1] at qk; omega)]
      have acp : ∀ i, i < 59 → ac ≠ pa_w h pa i := fun i hi z => by
        have u := (b i hi).1
        rw [← z, a1] at u
        omega
      have sa : H7 ac = z_i h ac := by
        rw [o7 _ (acp 16 (by decide)) (acp 17 (by decide)), o6 _ (acp _ (by decide)) (acp 12 (by decide)), e5o ac (acp 7 (by decide)) (fun z => by rw [z, ok.1.1] at a1; omega) (fun z => by rw [z, ok.2.1.1.1] at a1; omega)]
      unfold ac_ok ac_of
      rw [rr, R7.2.1, nn, zz, sa]
      exact ⟨⟨⟨a1, a2, a3⟩, ⟨b1, b2, b3⟩, ⟨c1, c2, c3⟩, fun i hi => by rw [ww]; exact d i hi⟩, A.1, fun k hk => ⟨by rw [zz, same _ b1 (fun i hi => (d i hi).1)]; exact (A.2 k hk).1, fun i hi => by rw [zz, same _ c1 (fun i hi => (d i hi).2)]; exact (A.2 k hk).2 i hi⟩⟩
    have nd7 : h_r h7 pa 0 = h_r h pa 0 := by rw [rr]
    refine r_ra40 (RX.start h7) rfl rfl (fun x10 q10 x11 q11 lv4 e0 e1 e2 e3 => ?_)
    refine l_raR okp ao7.1 ao7.2 N40 av (fun lv8 h8 k hk O8 ok8 B8 F8 d0 d1 => ?_) N 0 lv4 h7 x10 x11 (by omega) ry_ok0 rfl okp.2.1 B7 FX.same q10 q11 e0 e1 e2 e3
    obtain ⟨okp8, -, -⟩ := pa_FX okp ok8 F8
    refine r_ra125 (RX.start h8) d0 d1 (fun x12 q12 lv9 g0 g1 g3 => ?_)
    have nd8 : h_r h8 pa 0 = h_r h pa 0 := by rw [(pa_FX okp ok8 F8).2.1, nd7]
    refine l_raM (h0 := h8) (L0 := h_l h8 (h_r h8 (h_r h8 pa 0) 1)) O8 (fun h9 ok9 B9 F9 rr9 hD9 => ?_) (ry_v (ry_run T N).1) 0 lv9 h8 x12 (by omega) q12 okp8 B8 (FW.ofFX FX.same) rfl (fun _ => rfl) g0 g1 g3
    have z85 : z_i h8 (h_r h7 pa 0) 5 = (ps_n (ry_s (ry_run T N).1) : Int) := by
      have := B8.1.1
      rw [(pa_FX okp ok8 F8).2.1] at this
      exact this
    have hd9 : hd_0 h9 pa (ry_run T N).1 := fun j hj => by
      rw [hD9 j]
      refine hd_nC ?_ _
      rw [(pa_FX okp ok8 F8).2.1]
      exact F8.2.1.2.2.2 j (by rw [nd7, zz, e7n, e5n5]; exact Int.natCast_nonneg j) (by rw [z85]; omega)
    refine g h9 k hk O8 ok9 B9 ?_ hd9
    have F8' := F8
    rw [nd7] at F8
    rw [nd8] at F9
    refine (F7.trans2 (FW.ofFX F8) (fun q _ z => Or.inl (run_Yr rr z))).trans2 F9 (fun q hq z => ?_)
    have nn : h_n h7 = h_n h := by
      have := R7.1
      unfold h_n
      rw [this]
    rcases run_Ye okp ok8 F8' (by rw [nn]; exact hq) z with z | z
    · exact Or.inl (run_Yr rr z)
    · rw [rr] at z
      exact Or.inr z
end
end
