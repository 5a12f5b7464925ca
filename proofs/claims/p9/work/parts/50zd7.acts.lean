-- A PAST'S ROWS, ALL OF THEM BY NUMBER: 0 .. 6 the trail's, 7 heap, 8 other, 9 loose, 10 path, 11 cells, 12 sizes, 13 made, 14 links, 15 paid, 16 firsts, 17 seconds, 18 on the versions' roots
def pa_n (i : Nat) : Nat := if i < 7 then 63 else if i < 12 then 6 else if i = 12 then 41 else if i < 16 then 40 else if i < 18 then 41 else 6
theorem pa_wk {h : MH} {pa k : Nat} (hk : k < 7) : pa_w h pa k = h_r h (h_r h (h_r h pa 0) 4) k := if_pos hk
theorem pa_wr {h : MH} {pa v : Nat} : pa_w h pa (18 + v) = h_r h (h_r h pa 2) v := by
  unfold pa_w
  rw [if_neg (by omega), if_neg (by omega), if_neg (by omega), if_neg (by omega), if_neg (by omega), if_neg (by omega), if_neg (by omega), if_neg (by omega), Nat.add_sub_cancel_left]
theorem pa_n6 (i : Nat) : 6 ≤ pa_n i := by
  unfold pa_n
  repeat' split
  all_goals omega
def pa_ok (h : MH) (pa : Nat) : Prop := ((h_k h pa).1 = 4 ∧ 16 ≤ pa ∧ pa < 16 + h_n h) ∧ nl_ok h (h_r h pa 0) ∧ ((h_k h (h_r h (h_r h pa 0) 4)).1 = 8 ∧ 16 ≤ h_r h (h_r h pa 0) 4 ∧ h_r h (h_r h pa 0) 4 < 16 + h_n h) ∧ ((h_k h (h_r h pa 2)).1 = 33 ∧ (h_k h (h_r h pa 2)).2 = 41 ∧ 16 ≤ h_r h pa 2 ∧ h_r h pa 2 < 16 + h_n h) ∧ ((h_k h (h_r h pa 1)).1 = 2 ∧ 16 ≤ h_r h pa 1 ∧ h_r h pa 1 < 16 + h_n h) ∧ ((h_k h (h_r h (h_r h pa 1) 2)).1 = 25 ∧ (h_k h (h_r h (h_r h pa 1) 2)).2 = 41 ∧ 16 ≤ h_r h (h_r h pa 1) 2 ∧ h_r h (h_r h pa 1) 2 < 16 + h_n h ∧ h_r h (h_r h pa 1) 2 ≠ h_r h (h_r h pa 0) 1) ∧ (∀ i, i < 59 → (h_k h (pa_w h pa i)).1 = 20 ∧ 16 ≤ pa_w h pa i ∧ pa_w h pa i < 16 + h_n h ∧ pa_n i ≤ (h_k h (pa_w h pa i)).2 ∧ (h_k h (pa_w h pa i)).2 ≤ 1000000) ∧ ∀ i j, i < 59 → j < 59 → i ≠ j → pa_w h pa i ≠ pa_w h pa j
theorem pa_ap {h : MH} {pa i : Nat} (ok : pa_ok h pa) (hi : i < 59) (h11 : i ≠ 11) : ap_ok h (h_r h pa 0) (pa_w h pa i) := by
  obtain ⟨-, -, -, -, -, -, b, c⟩ := ok
  obtain ⟨b1, b2, b3, b4, -⟩ := b i hi
  have := pa_n6 i
  exact ⟨⟨b1, b2, by omega⟩, b3, c i 11 hi (by decide) h11⟩
theorem pa_nx {h : MH} {pa : Nat} (ok : pa_ok h pa) : nx_ok h (h_r h pa 0) := by
  have ok0 := ok
  obtain ⟨-, n, t, -, -, -, b, c⟩ := ok
  refine ⟨n, ⟨pa_ap ok0 (i := 9) (by decide) (by decide), (b 9 (by decide)).2.2.2.2⟩, pa_ap ok0 (i := 10) (by decide) (by decide), c 9 10 (by decide) (by decide) (by decide), ⟨t, fun k hk => ?_, fun a b' ha hb hn => ?_⟩, fun k hk => ?_⟩
  · rw [← pa_wk (h := h) (pa := pa) hk]
    obtain ⟨b1, b2, b3, b4, -⟩ := b k (by omega)
    have e : pa_n k = 63 := if_pos hk
    exact ⟨b1, b2, b3, by omega⟩
  · rw [← pa_wk (h := h) (pa := pa) ha, ← pa_wk (h := h) (pa := pa) hb]
    exact c a b' (by omega) (by omega) hn
  · rw [← pa_wk (h := h) (pa := pa) hk]
    exact ⟨c k 11 (by omega) (by decide) (by omega), c k 9 (by omega) (by decide) (by omega), c k 10 (by omega) (by decide) (by omega)⟩
theorem pa_hx {h : MH} {pa i : Nat} (ok : pa_ok h pa) (hi : i < 59) (h7 : 7 ≤ i) (h9 : i ≠ 9) (h10 : i ≠ 10) (h11 : i ≠ 11) : hx_ok h (h_r h pa 0) (pa_w h pa i) := by
  have c := ok.2.2.2.2.2.2.2
  exact ⟨pa_ap ok hi h11, c i 9 hi (by decide) h9, c i 10 hi (by decide) h10, fun k hk => by
    rw [← pa_wk (h := h) (pa := pa) hk]
    exact c i k hi (by omega) (by omega)⟩
-- what stands apart from a past's own
theorem pa_ne {h : MH} {pa i : Nat} (ok : pa_ok h pa) (hi : i < 59) : pa ≠ pa_w h pa i ∧ h_r h pa 0 ≠ pa_w h pa i ∧ h_r h (h_r h pa 0) 4 ≠ pa_w h pa i ∧ pa ≠ h_r h pa 0 ∧ pa ≠ h_r h (h_r h pa 0) 4 ∧ pa ≠ h_r h (h_r h pa 0) 1 := by
  obtain ⟨a, n, t, -, -, -, b, -⟩ := ok
  have b1 := (b i hi).1
  refine ⟨fun z => ?_, fun z => ?_, fun z => ?_, fun z => ?_, fun z => ?_, fun z => ?_⟩
  · rw [← z, a.1] at b1
    omega
  · rw [← z, n.1.1] at b1
    omega
  · rw [← z, t.1] at b1
    omega
  · have := n.1.1
    rw [← z, a.1] at this
    omega
  · have := t.1
    rw [← z, a.1] at this
    omega
  · have := n.2.2.1.1
    rw [← z, a.1] at this
    omega
theorem pa_FX {h h' : MH} {pa : Nat} {Y : Nat → Prop} (ok : pa_ok h pa) (o' : nl_ok h' (h_r h pa 0)) (F : FX (h_r h pa 0) Y h h') : pa_ok h' pa ∧ (∀ k, h_r h' pa k = h_r h pa k) ∧ ∀ i, i < 59 → i ≠ 11 → pa_w h' pa i = pa_w h pa i := by
  have ok0 := ok
  obtain ⟨a, n, t, r, li, fr, b, c⟩ := ok
  have N := F.1
  have nod := (pa_ne ok0 (i := 0) (by decide)).2.2.2
  have e0 : ∀ k, h_r h' pa k = h_r h pa k := fun k => (F.2.2 pa a.2.2).2.1 k (fun z => nod.1 z.1)
  have kd : ∀ {x : Nat}, x < 16 + h_n h → h_k h' x = h_k h x := fun {x} hx => (F.2.2 x hx).1
  have tn : h_r h (h_r h pa 0) 4 ≠ h_r h pa 0 := fun z => by
    have := t.1
    rw [z, n.1.1] at this
    omega
  have rn : h_r h pa 2 ≠ h_r h pa 0 := fun z => by
    have := r.1
    rw [z, n.1.1] at this
    omega
  have ln : h_r h pa 1 ≠ h_r h pa 0 := fun z => by
    have := li.1
    rw [z, n.1.1] at this
    omega
  have e4 : h_r h' (h_r h pa 0) 4 = h_r h (h_r h pa 0) 4 := (F.2.2 _ n.1.2.2).2.1 4 (by omega)
  have eR : ∀ {x : Nat} (k : Nat), x < 16 + h_n h → x ≠ h_r h pa 0 → h_r h' x k = h_r h x k := fun {x} k hx hn => (F.2.2 x hx).2.1 k (fun z => hn z.1)
  have eW : ∀ i, i < 59 → i ≠ 11 → pa_w h' pa i = pa_w h pa i := fun i hi h11 => by
    unfold pa_w
    simp only [e0, e4, if_neg h11]
    rw [(F.2.2 _ n.1.2.2).2.1 2 (by omega), (F.2.2 _ n.1.2.2).2.1 3 (by omega), eR _ t.2.2 tn, eR _ li.2.2 ln, eR _ r.2.2.2 rn]
  have w11 : pa_w h' pa 11 = h_r h' (h_r h pa 0) 0 := by
    show h_r h' (h_r h' pa 0) 0 = _
    rw [e0]
  have w11' : pa_w h' pa 11 = pa_w h pa 11 ∨ 16 + h_n h ≤ pa_w h' pa 11 := by
    rw [w11]
    exact F.2.1.1 0 (by decide)
  refine ⟨?_, e0, eW⟩
  have eF : h_r h' (h_r h pa 1) 2 = h_r h (h_r h pa 1) 2 := eR 2 li.2.2 ln
  have f1 : h_r h (h_r h pa 1) 2 ≠ h_r h' (h_r h pa 0) 1 := fun z => by
    rcases F.2.1.1 1 (by decide) with f | f
    · exact fr.2.2.2.2 (z.trans f)
    · have := fr.2.2.2.1
      omega
  unfold pa_ok
  rw [e0, e0, e0, e4, eF, kd a.2.2, kd t.2.2, kd r.2.2.2, kd li.2.2, kd fr.2.2.2.1]
  refine ⟨⟨a.1, a.2.1, by omega⟩, o', ⟨t.1, t.2.1, by omega⟩, ⟨r.1, r.2.1, r.2.2.1, by omega⟩, ⟨li.1, li.2.1, by omega⟩, ⟨fr.1, fr.2.1, fr.2.2.1, by omega, f1⟩, fun i hi => ?_, fun i j hi hj hn => ?_⟩
  · by_cases h11 : i = 11
    · subst h11
      rw [w11]
      obtain ⟨o1, o2, o3, o4, o5, o6, o7⟩ := o'
      exact ⟨o2.1, o2.2.1, o2.2.2, by show 6 ≤ _; omega, by omega⟩
    · rw [eW i hi h11]
      obtain ⟨b1, b2, b3, b4, b5⟩ := b i hi
      rw [kd b3]
      exact ⟨b1, b2, by omega, b4, b5⟩
  · by_cases i11 : i = 11
    · subst i11
      rw [eW j hj (Ne.symm hn)]
      rcases w11' with z | z
      · rw [z]
        exact c 11 j (by decide) hj hn
      · have := (b j hj).2.2.1
        omega
    · by_cases j11 : j = 11
      · subst j11
        rw [eW i hi i11]
        rcases w11' with z | z
        · rw [z]
          exact c i 11 hi (by decide) hn
        · have := (b i hi).2.2.1
          omega
      · rw [eW i hi i11, eW j hj j11]
        exact c i j hi hj hn
-- what an act changes
def py_Y (h : MH) (pa a : Nat) : Prop := a = pa ∨ a = h_r h (h_r h pa 0) 4 ∨ ∃ i, i < 11 ∧ a = pa_w h pa i
theorem py_kp {h h' : MH} {pa i : Nat} (ok : pa_ok h pa) (F : FX (h_r h pa 0) (py_Y h pa) h h') (hi : i < 59) (h12 : 12 ≤ i) (j : Nat) : z_i h' (pa_w h pa i) j = z_i h (pa_w h pa i) j := by
  obtain ⟨n1, n2, n3, -⟩ := pa_ne ok hi
  refine ap_kp ok.2.1 (pa_ap ok hi (by omega)) (fun z => ?_) F j
  rcases z with z | z | ⟨q, hq, z⟩
  · exact n1 z.symm
  · exact n3 z.symm
  · exact ok.2.2.2.2.2.2.2 i q hi (by omega) (by omega) z
section
variable {i pc pc' : Nat} {lv : List (Nat × Value)} {st : List Value} {h : MH} {Q : Option Value → MH → Prop}
theorem hI_ts {d lo hi o : Int} {offs : Array Int} {len t : Nat} {x : Int32} {z : Int} (a : m_at i pc = some (.tableswitch d lo hi offs, len)) (hx : x.toInt = z) (b0 : lo ≤ z) (b1 : z ≤ hi) (ho : offs[(z - lo).toNat]? = some o) (ht : (pc : Int) + o = (t : Int)) (g : HJ i t lv st h Q) : HJ i pc lv (.int x :: st) h Q := by
  refine HJ.ex (pc' := t) a (Or.inr rfl) ?_ g
  show (if x.toInt < lo ∨ hi < x.toInt then m_tg pc d lv st h else (match offs[(x.toInt - lo).toNat]? with
      | some o => m_tg pc o lv st h
      | none => none)) = _
  rw [hx, if_neg (by omega), ho]
  show m_tg pc o lv st h = _
  unfold m_tg
  rw [ht, if_pos (Int.natCast_nonneg t), Int.toNat_natCast]
end
section
variable {lv : List (Nat × Value)} {Q : Option Value → MH → Prop} {h0 h : MH} {H : Nat → Nat → Int}
theorem hR_cp {i pc pc' idx nest o to : Nat} {xs xd xn : Int32} (M : RX h0 h H) (ko : (h_k h0 o).1 = 20) (kt : (h_k h0 to).1 = 20) (o16 : 16 ≤ o) (t16 : 16 ≤ to) (lo : 6 ≤ (h_k h0 o).2) (lt : 6 ≤ (h_k h0 to).2) (qs : xs.toInt = 0) (qd : xd.toInt = 0) (qn : xn.toInt = 6) (a : m_at i pc = some (.invokestatic idx, 3)) (hm : m_ml i idx = some (nest, 901)) (hc : 1 ≤ m_fr i ∧ 0 + 18 ≤ m_lo i) (hp : pc + 3 = pc') (g : ∀ (h' : MH) (H' : Nat → Nat → Int), RX h0 h' H' → H' = m_u H to (fun j => if j < 6 then H o j else H to j) → HJ i pc' lv [] h' Q) : HJ i pc lv [.int xn, .int xd, .ref to, .int xs, .ref o] h Q := by
  have es : xs.toNatClampNeg = 0 := by show xs.toInt.toNat = 0; omega
  have ed : xd.toNatClampNeg = 0 := by show xd.toInt.toNat = 0; omega
  have en : xn.toNatClampNeg = 6 := by show xn.toInt.toNat = 6; omega
  have z0 : (0 : Int32).toInt = 0 := rfl
  refine hI_cp (h' := h_cpi h o to 0 0 6) (st := []) a hm ⟨o16, t16, fun z => ?_, fun z => ?_, fun z => ?_, by rw [es, en, M.2.1]; omega, by rw [ed, en, M.2.1]; omega, hc.1, hc.2, by decide⟩ (Or.inl ⟨by rw [M.2.1]; exact ko, by rw [M.2.1]; exact kt, by rw [es, ed, en]⟩) hp (g _ _ ⟨M.1, M.2.1, M.2.2.1, fun b j => ?_⟩ rfl)
  · have := Int32.lt_iff_toInt_lt.mp z
    omega
  · have := Int32.lt_iff_toInt_lt.mp z
    omega
  · have := Int32.lt_iff_toInt_lt.mp z
    omega
  · rw [s_cpI]
    by_cases e : b = to
    · subst e
      rw [m_uE]
      by_cases f : j < 6
      · rw [if_pos ⟨rfl, by omega, by omega⟩, if_pos f, M.2.2.2]
        simp
      · rw [if_neg (fun z => f (by omega)), if_neg f, M.2.2.2]
    · rw [if_neg (fun z => e z.1), m_uN _ _ _ _ e, M.2.2.2]
theorem r_lk0 {nd hp : Nat} (M : RX h0 h H) (e0 : m_lk lv 0 = some (.ref nd)) (e1 : m_lk lv 1 = some (.ref hp))  (hs0 : 16 ≤ nd) (hk0 : (h_k h0 nd).1 = 3)
    (g0 : HJ 72 0 (lv_args 0 [.ref nd, .ref hp]) [] h (fun v h' => HJ 80 5 lv (v.toList ++ []) h' Q))
    : HJ 80 0 lv [] h Q := by
  refine hI_al (k := 0) rfl e0 rfl ?_ -- 0
  refine hI_al (k := 1) rfl e1 rfl ?_ -- 1
  refine HJ.call (j := 72) (as := [.ref nd, .ref hp]) (rr := []) (pc' := 5) (m_cR (kc := 2) rfl rfl (by decide +kernel) rfl rfl rfl ⟨rfl, by decide +kernel, by decide +kernel⟩ (by decide) hs0 (by rw [M.2.1]; exact hk0)) (by show 2 ≤ m_lc 72; decide +kernel) ?_ -- 2
  exact g0 
theorem r_lk5 {nd hp : Nat} {k : Int} (M : RX h0 h H) (e0 : m_lk lv 0 = some (.ref nd)) (e1 : m_lk lv 1 = some (.ref hp)) {sx0 : Int32} (sq0 : sx0.toInt = k) (pk0 : -1 ≤ k) (pk1 : k ≤ 5) (ha0 : (h_k h0 hp).1 = 20) (hl0 : 6 ≤ ((h_k h0 hp).2 : Int)) (hs0 : 16 ≤ nd) (hk0 : (h_k h0 nd).1 = 3)
    (g0 : ∀ x3 : Int32, x3.toInt = H hp (k).toNat → ∀ lv1 : List (Nat × Value), m_lk lv1 0 = some (.ref nd) → m_lk lv1 1 = some (.ref hp) → m_lk lv1 2 = some (.int sx0) → k ≠ (-1) → HJ 66 0 (lv_args 0 [.ref nd, .int x3]) [] h (fun v h' => HJ 80 22 lv1 (v.toList ++ []) h' Q))
    (g1 : ∀ x4 : Int32, x4.toInt = (-1) → ∀ lv1 : List (Nat × Value), k = (-1) → Q (some (.int x4)) h)
    : HJ 80 5 lv [.int sx0] h Q := by
  refine hM_si (k := 2) rfl (by decide +kernel) rfl (fun lv1 e1_2 u1 => ?_) -- 5
  have e1_0 := u1 0 _ (by decide) (Or.inl rfl) e0
  have e1_1 := u1 1 _ (by decide) (Or.inl rfl) e1
  refine hI_il (k := 2) rfl e1_2 rfl ?_ -- 6
  refine hM_ic (n := (-1)) rfl (by decide) rfl (fun x2 q2 => ?_) -- 7
  refine hM_cne (off := 7) (t := 15) rfl sq0 q2 (by decide) rfl (fun c8 => ?_) (fun c8 => ?_) -- 8
  · refine hI_al (k := 0) rfl e1_0 rfl ?_ -- 15
    refine hI_al (k := 1) rfl e1_1 rfl ?_ -- 16
    refine hI_il (k := 2) rfl e1_2 rfl ?_ -- 17
    refine hR_ia M ha0 sq0 (by omega) (by omega) rfl rfl (fun x3 q3 => ?_) -- 18
    have gb3 : -2147483648 ≤ H hp (k).toNat ∧ H hp (k).toNat ≤ 2147483647 := by rw [← q3]; exact g_iT _
    refine HJ.call (j := 66) (as := [.ref nd, .int x3]) (rr := []) (pc' := 22) (m_cR (kc := 2) rfl rfl (by decide +kernel) rfl rfl rfl ⟨rfl, by decide +kernel, by decide +kernel⟩ (by decide) hs0 (by rw [M.2.1]; exact hk0)) (by show 2 ≤ m_lc 66; decide +kernel) ?_ -- 19
    exact g0 x3 q3 lv1 e1_0 e1_1 e1_2 c8
  · refine hM_ic (n := (-1)) rfl (by decide) rfl (fun x4 q4 => ?_) -- 11
    refine hI_go (pc' := 25) (off := 13) rfl (by decide) ?_ -- 12
    refine hI_ri rfl rfl ?_ -- 25
    exact g1 x4 q4 lv1 c8
theorem r_lk22 {w : Int} (M : RX h0 h H) {sx0 : Int32} (sq0 : sx0.toInt = w) 
    (g0 : HJ 78 0 (lv_args 0 [.int sx0]) [] h (fun v h' => HJ 80 25 lv (v.toList ++ []) h' Q))
    : HJ 80 22 lv [.int sx0] h Q := by
  refine hM_is0 (as := [.int sx0]) (r := []) rfl rfl (by decide +kernel) rfl rfl rfl rfl rfl ?_ -- 22
  exact g0 
theorem r_lk25 {w : Int} (M : RX h0 h H) {sx0 : Int32} (sq0 : sx0.toInt = w) 
    (g0 : Q (some (.int sx0)) h)
    : HJ 80 25 lv [.int sx0] h Q := by
  refine hI_ri rfl rfl ?_ -- 25
  exact g0 
theorem k_lkey {nd hp : Nat} {S : PSt} {f : Nat → Int} (M : RX h0 h H) (ok : nd_ok h0 nd (ps_n S)) (I : cs_of h0 H nd S) (hok : hp_ok h0 hp) (e : hp6 (H hp) f) (ho : hp_in S f) (g : ∀ x : Int32, x.toInt = (if pm_le S f 6 = -1 then -1 else ps_y S (f (pm_le S f 6).toNat).toNat) → Q (some (.int x)) h) : HJ 80 0 (lv_args 0 [.ref nd, .ref hp]) [] h Q := by
  have L := pm_leL (S := S) (f := f) 6
  have L1 : -1 ≤ pm_le S f 6 ∧ pm_le S f 6 ≤ 5 := by
    rcases L with z | z <;> omega
  refine r_lk0 M rfl rfl ok.1.2 ok.1.1 (k_least M ok I hok e ho (fun xk qk => ?_))
  refine r_lk5 M rfl rfl qk L1.1 L1.2 hok.1 hok.2.2 ok.1.2 ok.1.1 (fun x3 q3 lv1 e0 e1 e2 c => ?_) (fun x4 q4 _ c => g x4 (by rw [if_pos c]; exact q4))
  obtain ⟨l0, l1, l2⟩ := L.resolve_left (fun z => c z.1)
  rw [e _ (by omega)] at q3
  obtain ⟨r0, r1, r2⟩ := (ho _ (by omega)).resolve_left l2
  refine k_wt M ok I q3 r0 r1 (fun xw qw => ?_)
  obtain ⟨-, t, y, -⟩ := I.2.2.2.2 (f (pm_le S f 6).toNat).toNat (by omega)
  refine r_lk22 M qw (k_keyIn qw t.1 t.2 y.1 (fun w qw2 => ?_))
  exact r_lk25 M qw2 (g w (by rw [if_neg c]; exact qw2))
theorem r_hs0 {pa : Nat} (M : RX h0 h H) (e0 : m_lk lv 0 = some (.ref pa)) 
    (g0 : ∀ x1 : Int32, x1.toInt = 0 → ∀ x3 : Int32, x3.toInt = 0 → ∀ lv4 : List (Nat × Value), m_lk lv4 0 = some (.ref pa) → m_lk lv4 1 = some (.int x1) → m_lk lv4 2 = some (.int x3) → HJ 50 4 lv4 [] h Q)
    : HJ 50 0 lv [] h Q := by
  refine hM_ic (n := 0) rfl (by decide) rfl (fun x1 q1 => ?_) -- 0
  refine hM_si (k := 1) rfl (by decide +kernel) rfl (fun lv2 e2_1 u2 => ?_) -- 1
  have e2_0 := u2 0 _ (by decide) (Or.inl rfl) e0
  refine hM_ic (n := 0) rfl (by decide) rfl (fun x3 q3 => ?_) -- 2
  refine hM_si (k := 2) rfl (by decide +kernel) rfl (fun lv4 e4_2 u4 => ?_) -- 3
  have e4_0 := u4 0 _ (by decide) (Or.inl rfl) e2_0
  have e4_1 := u4 1 _ (by decide) (Or.inl rfl) e2_1
  exact g0 x1 q1 x3 q3 lv4 e4_0 e4_1 e4_2
theorem r_hs4 {pa : Nat} {n r : Int} (M : RX h0 h H) (e0 : m_lk lv 0 = some (.ref pa)) {lx1 : Int32} (e1 : m_lk lv 1 = some (.int lx1)) (lq1 : lx1.toInt = n) {lx2 : Int32} (e2 : m_lk lv 2 = some (.int lx2)) (lq2 : lx2.toInt = r) (pn0 : 0 ≤ n) (pn1 : n ≤ 63) (pr0 : 0 ≤ r) (pp0 : 0 ≤ (2 : Int) ^ (r).toNat) (pp1 : (2 : Int) ^ (r).toNat ≤ 64) (hk0 : (h_k h0 pa).1 = 4) (ha0 : (h_k h0 (h_r h0 pa 7)).1 = 20) (hl0 : 6 ≤ ((h_k h0 (h_r h0 pa 7)).2 : Int))
    (g0 : r ≥ 6 → Q (some (.int lx1)) h)
    (g1 : ∀ x4 : Int32, x4.toInt = r + 1 → ∀ lv4 : List (Nat × Value), m_lk lv4 0 = some (.ref pa) → m_lk lv4 1 = some (.int lx1) → m_lk lv4 2 = some (.int x4) → r < 6 → H (h_r h0 pa 7) (r).toNat = (-1) → HJ 50 4 lv4 [] h Q)
    (g2 : ∀ x7 : Int32, x7.toInt = n + ((2 : Int) ^ (r).toNat) → ∀ x9 : Int32, x9.toInt = r + 1 → ∀ lv9 : List (Nat × Value), m_lk lv9 0 = some (.ref pa) → m_lk lv9 1 = some (.int x7) → m_lk lv9 2 = some (.int x9) → r < 6 → H (h_r h0 pa 7) (r).toNat ≠ (-1) → HJ 50 4 lv9 [] h Q)
    : HJ 50 4 lv [] h Q := by
  refine hI_il (k := 2) rfl e2 rfl ?_ -- 4
  refine hM_bp (n := 6) rfl (by decide) rfl (fun x1 q1 => ?_) -- 5
  refine hM_cge (off := 25) (t := 32) rfl lq2 q1 (by decide) rfl (fun c7 => ?_) (fun c7 => ?_) -- 7
  · refine hI_il (k := 1) rfl e1 rfl ?_ -- 32
    refine hI_ri rfl rfl ?_ -- 33
    exact g0 c7
  · refine hI_al (k := 0) rfl e0 rfl ?_ -- 10
    refine hR_gr (c := 3) (k := 7) M hk0 rfl rfl rfl rfl ?_ -- 11
    refine hI_il (k := 2) rfl e2 rfl ?_ -- 14
    refine hR_ia M ha0 lq2 (by omega) (by omega) rfl rfl (fun x2 q2 => ?_) -- 15
    have gb2 : -2147483648 ≤ H (h_r h0 pa 7) (r).toNat ∧ H (h_r h0 pa 7) (r).toNat ≤ 2147483647 := by rw [← q2]; exact g_iT _
    refine hM_ic (n := (-1)) rfl (by decide) rfl (fun x3 q3 => ?_) -- 16
    refine hM_ceq (off := 9) (t := 26) rfl q2 q3 (by decide) rfl (fun c17 => ?_) (fun c17 => ?_) -- 17
    · refine hM_inc (k := 2) (z := 1) rfl e2 lq2 (by decide) (by omega) (by omega) (by decide +kernel) rfl (fun lv4 x4 q4 e4_2 u4 => ?_) -- 26
      have e4_0 := u4 0 _ (by decide) (Or.inl rfl) e0
      have e4_1 := u4 1 _ (by decide) (Or.inl rfl) e1
      refine hI_go (pc' := 4) (off := (-25)) rfl (by decide) ?_ -- 29
      exact g1 x4 q4 lv4 e4_0 e4_1 e4_2 c7 c17
    · refine hI_il (k := 1) rfl e1 rfl ?_ -- 20
      refine hM_ic (n := 1) rfl (by decide) rfl (fun x5 q5 => ?_) -- 21
      refine hI_il (k := 2) rfl e2 rfl ?_ -- 22
      refine hM_shl rfl q5 lq2 (by omega) (by omega) rfl (fun x6 q6 => ?_) -- 23
      refine hM_add rfl lq1 q6 (by omega) (by omega) rfl (fun x7 q7 => ?_) -- 24
      refine hM_si (k := 1) rfl (by decide +kernel) rfl (fun lv8 e8_1 u8 => ?_) -- 25
      have e8_0 := u8 0 _ (by decide) (Or.inl rfl) e0
      have e8_2 := u8 2 _ (by decide) (Or.inl rfl) e2
      refine hM_inc (k := 2) (z := 1) rfl e8_2 lq2 (by decide) (by omega) (by omega) (by decide +kernel) rfl (fun lv9 x9 q9 e9_2 u9 => ?_) -- 26
      have e9_0 := u9 0 _ (by decide) (Or.inl rfl) e8_0
      have e9_1 := u9 1 _ (by decide) (Or.inl rfl) e8_1
      refine hI_go (pc' := 4) (off := (-25)) rfl (by decide) ?_ -- 29
      exact g2 x7 q7 x9 q9 lv9 e9_0 e9_1 e9_2 c7 c17
theorem l_hsR {pa : Nat} {f : Nat → Int} (M : RX h0 h H) (kp : (h_k h0 pa).1 = 4) (hok : hp_ok h0 (h_r h0 pa 7)) (ef : hp6 (H (h_r h0 pa 7)) f) (g : ∀ x : Int32, x.toInt = (p_ws f 6 : Int) → Q (some (.int x)) h) : ∀ (d r : Nat) (lv : List (Nat × Value)) (xn xr : Int32), r + d = 6 → xn.toInt = (p_ws f r : Int) → xr.toInt = (r : Int) → m_lk lv 0 = some (.ref pa) → m_lk lv 1 = some (.int xn) → m_lk lv 2 = some (.int xr) → HJ 50 4 lv [] h Q := by
  intro d
  induction d with
  | zero =>
    intro r lv xn xr hd hn hr e0 e1 e2
    have r6 : r = 6 := by omega
    subst r6
    have b := p_wsL (f := f) 6
    exact r_hs4 M e0 e1 hn e2 hr (by omega) (by omega) (by omega) (by decide) (by decide) kp hok.1 hok.2.2 (fun _ => g xn hn) (fun _ _ _ _ _ _ c => absurd c (by omega)) (fun _ _ _ _ _ _ _ _ c => absurd c (by omega))
  | succ d ih =>
    intro r lv xn xr hd hn hr e0 e1 e2
    have b := p_wsL (f := f) r
    have b2 := n_2q (k := r) (by omega)
    have b3 := i_2q (k := r) (by omega)
    have er := ef r (by omega)
    refine r_hs4 M e0 e1 hn e2 hr (by omega) (by omega) (by omega) (by rw [Int.toNat_natCast]; omega) (by rw [Int.toNat_natCast]; omega) kp hok.1 hok.2.2 (fun c => absurd c (by omega)) (fun x4 q4 lv4 a0 a1 a2 _ c => ?_) (fun x7 q7 x9 q9 lv9 a0 a1 a2 _ c => ?_)
    · rw [Int.toNat_natCast, er] at c
      refine ih (r + 1) lv4 xn x4 (by omega) ?_ (by omega) a0 a1 a2
      rw [p_ws, y_tg0 c]
      omega
    · rw [Int.toNat_natCast] at c q7
      rw [er] at c
      refine ih (r + 1) lv9 x7 x9 (by omega) ?_ (by omega) a0 a1 a2
      rw [p_ws, y_tg1 c]
      omega
theorem k_hs {pa : Nat} {f : Nat → Int} (M : RX h0 h H) (kp : (h_k h0 pa).1 = 4) (hok : hp_ok h0 (h_r h0 pa 7)) (ef : hp6 (H (h_r h0 pa 7)) f) (g : ∀ x : Int32, x.toInt = (p_ws f 6 : Int) → Q (some (.int x)) h) : HJ 50 0 (lv_args 0 [.ref pa]) [] h Q := by
  refine r_hs0 M rfl (fun x1 q1 x3 q3 lv4 e0 e1 e2 => ?_)
  exact l_hsR M kp hok ef g 6 0 lv4 x1 x3 rfl q1 q3 e0 e1 e2
theorem r_has {pa : Nat} {v : Int} (M : RX h0 h H) (e0 : m_lk lv 0 = some (.ref pa)) {lx1 : Int32} (e1 : m_lk lv 1 = some (.int lx1)) (lq1 : lx1.toInt = v)  (hk0 : (h_k h0 pa).1 = 4)
    (g0 : ∀ x1 : Int32, x1.toInt = 0 → v < 0 → Q (some (.int x1)) h)
    (g1 : ∀ x3 : Int32, x3.toInt = 0 → v ≥ 0 → v > H pa 11 → Q (some (.int x3)) h)
    (g2 : ∀ x4 : Int32, x4.toInt = 1 → v ≥ 0 → v ≤ H pa 11 → Q (some (.int x4)) h)
    : HJ 57 0 lv [] h Q := by
  refine hI_il (k := 1) rfl e1 rfl ?_ -- 0
  refine hM_zlt (off := 15) (t := 16) rfl lq1 (by decide) rfl (fun c1 => ?_) (fun c1 => ?_) -- 1
  · refine hM_ic (n := 0) rfl (by decide) rfl (fun x1 q1 => ?_) -- 16
    refine hM_rb rfl rfl q1 (by omega) (by omega) ?_ -- 17
    exact g0 x1 q1 c1
  · refine hI_il (k := 1) rfl e1 rfl ?_ -- 4
    refine hI_al (k := 0) rfl e0 rfl ?_ -- 5
    refine hR_gi (c := 3) (k := 11) M hk0 rfl rfl rfl rfl (fun x2 q2 => ?_) -- 6
    have gb2 : -2147483648 ≤ H pa 11 ∧ H pa 11 ≤ 2147483647 := by rw [← q2]; exact g_iT _
    refine hM_cgt (off := 7) (t := 16) rfl lq1 q2 (by decide) rfl (fun c9 => ?_) (fun c9 => ?_) -- 9
    · refine hM_ic (n := 0) rfl (by decide) rfl (fun x3 q3 => ?_) -- 16
      refine hM_rb rfl rfl q3 (by omega) (by omega) ?_ -- 17
      exact g1 x3 q3 c1 c9
    · refine hM_ic (n := 1) rfl (by decide) rfl (fun x4 q4 => ?_) -- 12
      refine hI_go (pc' := 17) (off := 4) rfl (by decide) ?_ -- 13
      refine hM_rb rfl rfl q4 (by omega) (by omega) ?_ -- 17
      exact g2 x4 q4 c1 c9
theorem k_has {pa : Nat} {v : Int} {xv : Int32} (M : RX h0 h H) (kp : (h_k h0 pa).1 = 4) (qv : xv.toInt = v) (g : ∀ x : Int32, (x.toInt = 1 ∧ 0 ≤ v ∧ v ≤ H pa 11) ∨ (x.toInt = 0 ∧ ¬ (0 ≤ v ∧ v ≤ H pa 11)) → Q (some (.int x)) h) : HJ 57 0 (lv_args 0 [.ref pa, .int xv]) [] h Q :=
  r_has M rfl rfl qv kp (fun x q c => g x (Or.inr ⟨q, fun z => by omega⟩)) (fun x q _ c => g x (Or.inr ⟨q, fun z => by omega⟩)) (fun x q c1 c2 => g x (Or.inl ⟨q, c1, c2⟩))
theorem r_ld0 {pa to : Nat} {v : Int} (M : RX h0 h H) (e0 : m_lk lv 0 = some (.ref pa)) {lx1 : Int32} (e1 : m_lk lv 1 = some (.int lx1)) (lq1 : lx1.toInt = v) (e2 : m_lk lv 2 = some (.ref to))  (hs0 : 16 ≤ pa) (hk0 : (h_k h0 pa).1 = 4)
    (g0 : HJ 57 0 (lv_args 0 [.ref pa, .int lx1]) [] h (fun v h' => HJ 58 5 lv (v.toList ++ []) h' Q))
    : HJ 58 0 lv [] h Q := by
  refine hI_al (k := 0) rfl e0 rfl ?_ -- 0
  refine hI_il (k := 1) rfl e1 rfl ?_ -- 1
  refine HJ.call (j := 57) (as := [.ref pa, .int lx1]) (rr := []) (pc' := 5) (m_cR (kc := 3) rfl rfl (by decide +kernel) rfl rfl rfl ⟨rfl, by decide +kernel, by decide +kernel⟩ (by decide) hs0 (by rw [M.2.1]; exact hk0)) (by show 2 ≤ m_lc 57; decide +kernel) ?_ -- 2
  exact g0 
theorem r_ld5 {pa to : Nat} {v z : Int} (M : RX h0 h H) (e0 : m_lk lv 0 = some (.ref pa)) {lx1 : Int32} (e1 : m_lk lv 1 = some (.int lx1)) (lq1 : lx1.toInt = v) (e2 : m_lk lv 2 = some (.ref to)) {sx0 : Int32} (sq0 : sx0.toInt = z) (pv0 : z ≠ 0 → 0 ≤ v ∧ v ≤ 40) (hk0 : (h_k h0 pa).1 = 4) (hA0 : (h_k h0 (h_r h0 pa 2)).1 = 33) (hl0 : 41 ≤ ((h_k h0 (h_r h0 pa 2)).2 : Int))
    (g0 : z = 0 → Q none h)
    (g1 : ∀ x2 : Int32, x2.toInt = 0 → ∀ x3 : Int32, x3.toInt = 0 → ∀ x4 : Int32, x4.toInt = 6 → z ≠ 0 → HJ 58 19 lv [.int x4, .int x3, .ref to, .int x2, .ref (h_r h0 (h_r h0 pa 2) (v).toNat)] h Q)
    : HJ 58 5 lv [.int sx0] h Q := by
  refine hM_zeq (off := 17) (t := 22) rfl sq0 (by decide) rfl (fun c5 => ?_) (fun c5 => ?_) -- 5
  · refine hI_rv rfl rfl ?_
    exact g0 c5
  · refine hI_al (k := 0) rfl e0 rfl ?_ -- 8
    refine hR_gr (c := 3) (k := 2) M hk0 rfl rfl rfl rfl ?_ -- 9
    refine hI_il (k := 1) rfl e1 rfl ?_ -- 12
    refine hR_aa M hA0 lq1 (by omega) (by omega) rfl rfl ?_ -- 13
    refine hM_ic (n := 0) rfl (by decide) rfl (fun x2 q2 => ?_) -- 14
    refine hI_al (k := 2) rfl e2 rfl ?_ -- 15
    refine hM_ic (n := 0) rfl (by decide) rfl (fun x3 q3 => ?_) -- 16
    refine hM_bp (n := 6) rfl (by decide) rfl (fun x4 q4 => ?_) -- 17
    exact g1 x2 q2 x3 q3 x4 q4 c5
theorem k_load {pa to : Nat} {v : Int} {xv : Int32} (M : RX h0 h H) (ok : pa_ok h0 pa) (qv : xv.toInt = v) (v0 : 0 ≤ v) (v1 : v ≤ H pa 11) (s1 : H pa 11 ≤ 40) (kt : hp_ok h0 to) (g : ∀ (h' : MH) (H' : Nat → Nat → Int), RX h0 h' H' → H' = m_u H to (fun j => if j < 6 then H (pa_w h0 pa (18 + v.toNat)) j else H to j) → Q none h') : HJ 58 0 (lv_args 0 [.ref pa, .int xv, .ref to]) [] h Q := by
  refine r_ld0 M rfl rfl qv rfl ok.1.2.1 ok.1.1 (k_has M ok.1.1 qv (fun x hx => ?_))
  have r := ok.2.2.2.1
  obtain ⟨b1, b2, -, b4, -⟩ := ok.2.2.2.2.2.2.1 (18 + v.toNat) (by omega)
  have n6 := pa_n6 (18 + v.toNat)
  rw [pa_wr] at b1 b2 b4
  refine r_ld5 M rfl rfl qv rfl rfl (fun _ => ⟨v0, by omega⟩) ok.1.1 r.1 (by omega) (fun c => ?_) (fun x2 q2 x3 q3 x4 q4 _ => ?_)
  · rcases hx with z | z
    · omega
    · exact absurd ⟨v0, v1⟩ z.2
  · refine hR_cp M b1 kt.1 b2 kt.2.1 (by omega) (by have := kt.2.2; omega) q2 q3 q4 rfl rfl ⟨by decide +kernel, by decide +kernel⟩ rfl (fun h' H' M' e' => ?_)
    exact hI_rv rfl rfl (g h' H' M' (by rw [pa_wr]; exact e'))
theorem r_kh0 {pa : Nat} (M : RX h0 h H) (e0 : m_lk lv 0 = some (.ref pa)) (ps0 : 0 ≤ H pa 11) (ps1 : H pa 11 ≤ 40) (hk0 : (h_k h0 pa).1 = 4) (hA0 : (h_k h0 (h_r h0 pa 2)).1 = 33) (hl0 : 41 ≤ ((h_k h0 (h_r h0 pa 2)).2 : Int))
    (g0 : ∀ x1 : Int32, x1.toInt = 0 → ∀ x4 : Int32, x4.toInt = 0 → ∀ x5 : Int32, x5.toInt = 6 → HJ 49 17 lv [.int x5, .int x4, .ref (h_r h0 (h_r h0 pa 2) (H pa 11).toNat), .int x1, .ref (h_r h0 pa 7)] h Q)
    : HJ 49 0 lv [] h Q := by
  refine hI_al (k := 0) rfl e0 rfl ?_ -- 0
  refine hR_gr (c := 3) (k := 7) M hk0 rfl rfl rfl rfl ?_ -- 1
  refine hM_ic (n := 0) rfl (by decide) rfl (fun x1 q1 => ?_) -- 4
  refine hI_al (k := 0) rfl e0 rfl ?_ -- 5
  refine hR_gr (c := 3) (k := 2) M hk0 rfl rfl rfl rfl ?_ -- 6
  refine hI_al (k := 0) rfl e0 rfl ?_ -- 9
  refine hR_gi (c := 3) (k := 11) M hk0 rfl rfl rfl rfl (fun x2 q2 => ?_) -- 10
  have gb2 : -2147483648 ≤ H pa 11 ∧ H pa 11 ≤ 2147483647 := by rw [← q2]; exact g_iT _
  refine hR_aa M hA0 q2 (by omega) (by omega) rfl rfl ?_ -- 13
  refine hM_ic (n := 0) rfl (by decide) rfl (fun x4 q4 => ?_) -- 14
  refine hM_bp (n := 6) rfl (by decide) rfl (fun x5 q5 => ?_) -- 15
  exact g0 x1 q1 x4 q4 x5 q5
theorem r_kh20 {pa : Nat} (M : RX h0 h H) (e0 : m_lk lv 0 = some (.ref pa))  (hk0 : (h_k h0 pa).1 = 4) (hs0 : 16 ≤ pa)
    (g0 : ∀ x1 : Int32, x1.toInt = H pa 11 → HJ 50 0 (lv_args 0 [.ref pa]) [] h (fun v h' => HJ 49 32 lv (v.toList ++ [.int x1, .ref (h_r h0 pa 3)]) h' Q))
    : HJ 49 20 lv [] h Q := by
  refine hI_al (k := 0) rfl e0 rfl ?_ -- 20
  refine hR_gr (c := 3) (k := 3) M hk0 rfl rfl rfl rfl ?_ -- 21
  refine hI_al (k := 0) rfl e0 rfl ?_ -- 24
  refine hR_gi (c := 3) (k := 11) M hk0 rfl rfl rfl rfl (fun x1 q1 => ?_) -- 25
  have gb1 : -2147483648 ≤ H pa 11 ∧ H pa 11 ≤ 2147483647 := by rw [← q1]; exact g_iT _
  refine hI_al (k := 0) rfl e0 rfl ?_ -- 28
  refine HJ.call (j := 50) (as := [.ref pa]) (rr := [.int x1, .ref (h_r h0 pa 3)]) (pc' := 32) (m_cR (kc := 3) rfl rfl (by decide +kernel) rfl rfl rfl ⟨rfl, by decide +kernel, by decide +kernel⟩ (by decide) hs0 (by rw [M.2.1]; exact hk0)) (by show 1 ≤ m_lc 50; decide +kernel) ?_ -- 29
  exact g0 x1 q1
theorem r_kh32 {pa : Nat} {s z : Int} (M : RX h0 h H) (e0 : m_lk lv 0 = some (.ref pa)) {sx1 : Int32} (sq1 : sx1.toInt = s) {sx2 : Int32} (sq2 : sx2.toInt = z) (ps0 : 0 ≤ s) (ps1 : s ≤ 40) (ha0 : (h_k h0 (h_r h0 pa 3)).1 = 20) (hl0 : 41 ≤ ((h_k h0 (h_r h0 pa 3)).2 : Int)) (hs0 : 16 ≤ h_r h0 pa 3)
    (g0 : ∀ h1 : MH, ∀ H1 : Nat → Nat → Int, H1 = m_u H (h_r h0 pa 3) (m_u (H (h_r h0 pa 3)) (s).toNat (z)) → RX h0 h1 H1 → Q none h1)
    : HJ 49 32 lv [.int sx2, .int sx1, .ref (h_r h0 pa 3)] h Q := by
  refine hR_is M hs0 ha0 sq1 sq2 (by omega) (by omega) rfl rfl (fun h1 H1 f1 M1 => ?_) -- 32
  refine hI_rv rfl rfl ?_
  exact g0 h1 H1 f1 M1
-- the heap kept as a version
theorem k_keep {pa s : Nat} {f : Nat → Int} (M : RX h0 h H) (ok : pa_ok h0 pa) (es : H pa 11 = (s : Int)) (s40 : s ≤ 40) (ef : hp6 (H (h_r h0 pa 7)) f) (g : ∀ (h' : MH) (H' : Nat → Nat → Int), RX h0 h' H' → (∀ a, a ≠ pa_w h0 pa (18 + s) → a ≠ h_r h0 pa 3 → H' a = H a) → hp6 (H' (pa_w h0 pa (18 + s))) f → H' (h_r h0 pa 3) = m_u (H (h_r h0 pa 3)) s (p_ws f 6 : Int) → Q none h') : HJ 49 0 (lv_args 0 [.ref pa]) [] h Q := by
  have ok0 := ok
  obtain ⟨a, -, -, r, -, -, b, c⟩ := ok
  obtain ⟨b1, b2, -, b4, -⟩ := b (18 + s) (by omega)
  obtain ⟨h1, h2, -, h4, -⟩ := b 7 (by decide)
  obtain ⟨z1, z2, -, z4, -⟩ := b 12 (by decide)
  have n6 := pa_n6 (18 + s)
  have d1 := c 7 (18 + s) (by decide) (by omega) (by omega)
  have d2 := c 12 (18 + s) (by decide) (by omega) (by omega)
  have d3 := c 12 7 (by decide) (by decide) (by decide)
  have n12 : pa_n 12 = 41 := rfl
  have n7 : pa_n 7 = 6 := rfl
  have kp := (pa_ne ok0 (i := 18 + s) (by omega)).1
  rw [pa_wr] at b1 b2 b4 d1 d2 kp
  have e7 : pa_w h0 pa 7 = h_r h0 pa 7 := rfl
  have e12 : pa_w h0 pa 12 = h_r h0 pa 3 := rfl
  rw [e7] at h1 h2 h4 d1 d3
  rw [e12] at z1 z2 z4 d2 d3
  refine r_kh0 M rfl (by omega) (by omega) a.1 r.1 (by omega) (fun x1 q1 x4 q4 x5 q5 => ?_)
  rw [es, Int.toNat_natCast]
  refine hR_cp M h1 b1 h2 b2 (by omega) (by omega) q1 q4 q5 rfl rfl ⟨by decide +kernel, by decide +kernel⟩ rfl (fun h3 H3 M3 e3 => ?_)
  have o3 : ∀ q, q ≠ h_r h0 (h_r h0 pa 2) s → H3 q = H q := fun q hq => by rw [e3, m_uN _ _ _ _ hq]
  refine r_kh20 M3 rfl a.1 a.2.1 (fun x6 q6 => ?_)
  rw [o3 pa kp, es] at q6
  refine k_hs (f := f) M3 a.1 ⟨h1, h2, by omega⟩ (fun q hq => by rw [o3 _ d1]; exact ef q hq) (fun xz qz => ?_)
  refine r_kh32 M3 rfl q6 qz (by omega) (by omega) z1 (by omega) z2 (fun h4' H4 f4 M4 => g h4' H4 M4 (fun q hq hz => ?_) (fun q hq => ?_) ?_)
  · rw [pa_wr] at hq
    rw [f4, m_uN _ _ _ _ hz]
    exact o3 q hq
  · rw [pa_wr, f4, m_uN _ _ _ _ (Ne.symm d2), e3, m_uE, if_pos hq]
    exact ef q hq
  · rw [f4, m_uE, Int.toNat_natCast, o3 _ d2]
end
