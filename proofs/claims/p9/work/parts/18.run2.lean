-- copies, calls, every step, every run
theorem g_cpi {s : AI} {A : AH} {h : MH} {a0 a1 : Nat} {o0 o1 : AC} (sp dp n : Nat) (hh : g_h s A h) (e0 : b_cell A a0 = some o0) (e1 : b_cell A a1 = some o1) (ha : a1 ≠ 14) : g_h s (b_set A a1 (o1.1, (b_jn (b_all o0.2.1) (b_all o1.2.1), []), o1.2.2)) (h_cpi h a0 a1 sp dp n) := by
  obtain ⟨p1, p2, p3, p4⟩ := hh.2.2.1 a1 o1 e1
  obtain ⟨r1, r2, r3, r4⟩ := hh.2.2.1 a0 o0 e0
  refine g_set hh ha rfl (fun b => rfl) (fun b hb => ⟨m_uN _ _ _ _ hb, rfl, rfl⟩) ⟨p1, fun j => ?_, p3, p4⟩
  show g_i (b_jn (b_all o0.2.1) (b_all o1.2.1)) (m_u (h_i h) a1 (fun j => if dp ≤ j ∧ j < dp + n then h_i h a0 (sp + (j - dp)) else h_i h a1 j) a1 j)
  rw [m_uE]
  by_cases hc : dp ≤ j ∧ j < dp + n
  · rw [if_pos hc]
    exact g_jn1 (g_all _ _ (r2 _))
  · rw [if_neg hc]
    exact g_jn2 (g_all _ _ (p2 _))
theorem g_cpl {s : AI} {A : AH} {h : MH} {a0 a1 : Nat} {o0 o1 : AC} (sp dp n : Nat) (hh : g_h s A h) (e0 : b_cell A a0 = some o0) (e1 : b_cell A a1 = some o1) (ha : a1 ≠ 14) : g_h s (b_set A a1 (o1.1, o1.2.1, (b_jn (b_all o0.2.2.1) (b_all o1.2.2.1), []), o1.2.2.2)) (h_cpl h a0 a1 sp dp n) := by
  obtain ⟨p1, p2, p3, p4⟩ := hh.2.2.1 a1 o1 e1
  obtain ⟨r1, r2, r3, r4⟩ := hh.2.2.1 a0 o0 e0
  refine g_set hh ha rfl (fun b => rfl) (fun b hb => ⟨rfl, m_uN _ _ _ _ hb, rfl⟩) ⟨p1, p2, fun j => ?_, p4⟩
  show g_j (b_jn (b_all o0.2.2.1) (b_all o1.2.2.1)) (m_u (h_l h) a1 (fun j => if dp ≤ j ∧ j < dp + n then h_l h a0 (sp + (j - dp)) else h_l h a1 j) a1 j)
  rw [m_uE]
  by_cases hc : dp ≤ j ∧ j < dp + n
  · rw [if_pos hc]
    exact g_jn1 (g_all _ _ (r3 _))
  · rw [if_neg hc]
    exact g_jn2 (g_all _ _ (p3 _))
section
variable {s : AI} {pc : Nat} {lv : AL} {st : List AV} {A : AH} {lv' : List (Nat × Value)} {st' : List Value} {h : MH}
theorem p_cp (i : Nat) (hl : g_l s lv lv') (hs : g_s s st st') (hh : g_h s A h) : g_P s (c_cp i pc lv st A) (e_cp i pc lv' st' h) := by
  unfold c_cp
  split
  · next n dp a1 sp a0 r =>
    obtain ⟨v, q, rfl, ⟨n', rfl, hn⟩, hq1⟩ := g_sc hs
    obtain ⟨v, q, rfl, ⟨dp', rfl, hdp⟩, hq2⟩ := g_sc hq1
    obtain ⟨v, q, rfl, ha1, hq3⟩ := g_sc hq2
    cases (ha1 : v = .ref a1)
    obtain ⟨v, q, rfl, ⟨sp', rfl, hsp⟩, hq4⟩ := g_sc hq3
    obtain ⟨v, q, rfl, ha0, hq⟩ := g_sc hq4
    cases (ha0 : v = .ref a0)
    split
    · next o0 o1 e0 e1 =>
      have k0 := (hh.2.2.1 a0 o0 e0).1
      have k1 := (hh.2.2.1 a1 o1 e1).1
      unfold e_cp
      dsimp only
      rw [k0, k1, g_ct hq]
      split
      · next hc =>
        obtain ⟨c1, c2, c3, c4, c5, c6, c7, c8, c9, c10⟩ := hc
        have hneg : ∀ {p : AI} {x : Int32}, g_i p x → 0 ≤ p.1 → ¬ x < 0 := fun {p x} hx h0 q => by
          have := Int32.lt_iff_toInt_lt.mp q
          have : (0 : Int32).toInt = 0 := by decide
          obtain ⟨z1, z2⟩ := hx
          omega
        have hle : ∀ {p : AI} {x : Int32}, g_i p x → 0 ≤ p.1 → (x.toNatClampNeg : Int) ≤ p.2 := fun {p x} hx h0 => by
          obtain ⟨z1, z2⟩ := hx
          show (x.toInt.toNat : Int) ≤ _
          omega
        have l1 := hle hn c5
        have l2 := hle hdp c4
        have l3 := hle hsp c3
        have hcc : 16 ≤ a0 ∧ 16 ≤ a1 ∧ ¬ sp' < 0 ∧ ¬ dp' < 0 ∧ ¬ n' < 0 ∧ sp'.toNatClampNeg + n'.toNatClampNeg ≤ o0.1.2 ∧ dp'.toNatClampNeg + n'.toNatClampNeg ≤ o1.1.2 ∧ 1 ≤ m_fr i ∧ b_ct r + 18 ≤ m_lo i ∧ b_ct r ≤ 8 := ⟨c1, c2, hneg hsp c3, hneg hdp c4, hneg hn c5, by omega, by omega, c8, c9, c10⟩
        rw [if_pos hcc]
        by_cases d1 : (o0.1.1 = 20 ∧ o1.1.1 = 20) ∨ (o0.1.1 = 21 ∧ o1.1.1 = 21)
        · rw [if_pos d1, if_pos d1]
          exact p_go hl hq (g_cpi _ _ _ hh e0 e1 (by omega))
        · rw [if_neg d1, if_neg d1]
          by_cases d2 : o0.1.1 = 25 ∧ o1.1.1 = 25
          · rw [if_pos d2, if_pos d2]
            exact p_go hl hq (g_cpl _ _ _ hh e0 e1 (by omega))
          · rw [if_neg d2]
            exact p_no _ _
      · exact p_no _ _
    · exact p_no _ _
  · exact p_no _ _
def k_ini (kd i pc : Nat) (lv : AL) (st : List AV) (h : AH) : Option AA := match st with
  | .inr (.inr (.inr a)) :: r => if kd = 2 ∧ 16 ≤ a ∧ 1 ≤ m_fr i ∧ b_ct r + 12 ≤ m_lo i ∧ b_ct r ≤ 8 then b_go (pc + 3) lv r h else none
  | _ => none
def f_ini (kd i pc : Nat) (lv : List (Nat × Value)) (st : List Value) (h : MH) : Option MA := match st with
  | .ref a :: r => if kd = 2 ∧ 16 ≤ a ∧ 1 ≤ m_fr i ∧ m_cat r + 12 ≤ m_lo i ∧ m_cat r ≤ 8 then m_go (pc + 3) lv r h else none
  | _ => none
theorem p_ini (kd i : Nat) (hl : g_l s lv lv') (hs : g_s s st st') (hh : g_h s A h) : g_P s (k_ini kd i pc lv st A) (f_ini kd i pc lv' st' h) := by
  unfold k_ini
  split
  · next a r =>
    obtain ⟨v, q, rfl, ha, hq⟩ := g_sc hs
    cases (ha : v = .ref a)
    unfold f_ini
    dsimp only
    rw [g_ct hq]
    split
    · exact p_go hl hq hh
    · exact p_no _ _
  · exact p_no _ _
def k_mi (j kd nest i pc : Nat) (lv : AL) (st : List AV) (h : AH) : Option AA := match st with
  | .inl y :: .inl x :: r => if kd = 0 ∧ nest = 0 ∧ 1 ≤ m_fr i ∧ b_ct r + 13 ≤ m_lo i then b_go (pc + 3) lv (.inl (b_f2 (fun x y => if j = m_jmin then (if y < x then y else x) else (if x < y then y else x)) x y) :: r) h else none
  | _ => none
def f_mi (j kd nest i pc : Nat) (lv : List (Nat × Value)) (st : List Value) (h : MH) : Option MA := match st with
  | .int y :: .int x :: r => if kd = 0 ∧ nest = 0 ∧ 1 ≤ m_fr i ∧ m_cat r + 13 ≤ m_lo i then m_go (pc + 3) lv (.int (if j = m_jmin then (if y < x then y else x) else (if x < y then y else x)) :: r) h else none
  | _ => none
theorem p_mi (j kd nest i : Nat) (hl : g_l s lv lv') (hs : g_s s st st') (hh : g_h s A h) : g_P s (k_mi j kd nest i pc lv st A) (f_mi j kd nest i pc lv' st' h) := by
  unfold k_mi
  split
  · next y x r =>
    obtain ⟨v, q, rfl, ⟨y', rfl, hy⟩, hq1⟩ := g_sc hs
    obtain ⟨v, q, rfl, ⟨x', rfl, hx⟩, hq⟩ := g_sc hq1
    unfold f_mi
    dsimp only
    rw [g_ct hq]
    split
    · exact p_go hl ⟨⟨_, rfl, g_f2 (f := fun x y => if j = m_jmin then (if y < x then y else x) else (if x < y then y else x)) hx hy⟩, hq⟩ hh
    · exact p_no _ _
  · exact p_no _ _
def k_ml (j kd nest i pc : Nat) (lv : AL) (st : List AV) (h : AH) : Option AA := match st with
  | .inr (.inr (.inl y)) :: .inr (.inr (.inl x)) :: r => if kd = 0 ∧ nest = 0 ∧ 1 ≤ m_fr i ∧ b_ct r + 15 ≤ m_lo i then b_go (pc + 3) lv (.inr (.inr (.inl (b_g2 (fun x y => if j = m_jminl then (if y < x then y else x) else (if y < x then x else y)) x y))) :: r) h else none
  | _ => none
def f_ml (j kd nest i pc : Nat) (lv : List (Nat × Value)) (st : List Value) (h : MH) : Option MA := match st with
  | .long y :: .long x :: r => if kd = 0 ∧ nest = 0 ∧ 1 ≤ m_fr i ∧ m_cat r + 15 ≤ m_lo i then m_go (pc + 3) lv (.long (if j = m_jminl then (if y < x then y else x) else (if y < x then x else y)) :: r) h else none
  | _ => none
theorem p_ml (j kd nest i : Nat) (hl : g_l s lv lv') (hs : g_s s st st') (hh : g_h s A h) : g_P s (k_ml j kd nest i pc lv st A) (f_ml j kd nest i pc lv' st' h) := by
  unfold k_ml
  split
  · next y x r =>
    obtain ⟨v, q, rfl, ⟨y', rfl, hy⟩, hq1⟩ := g_sc hs
    obtain ⟨v, q, rfl, ⟨x', rfl, hx⟩, hq⟩ := g_sc hq1
    unfold f_ml
    dsimp only
    rw [g_ct hq]
    split
    · exact p_go hl ⟨⟨_, rfl, g_g2 (f := fun x y => if j = m_jminl then (if y < x then y else x) else (if y < x then x else y)) hx hy⟩, hq⟩ hh
    · exact p_no _ _
  · exact p_no _ _
def k_vc (j pc : Nat) (st D : List AV) (h : AH) : Option AA := match D with
  | .inr (.inr (.inr a)) :: r => (match b_cell h a with
    | some o => if m_na j + 1 ≤ st.length ∧ b_ct r ≤ 8 ∧ (if (m_m j).2.1.cls = "java/lang/String" then o.1.1 = 40 else m_cnm (o.1.1 - 1) = (m_m j).2.1.cls ∧ 16 ≤ a ∧ 0 < o.1.1 ∧ o.1.1 < 11) then some (.inr (.inr (j, b_r a :: (st.take (m_na j)).reverse, r, pc + 3))) else none
    | none => none)
  | _ => none
def f_vc (j pc : Nat) (st D : List Value) (h : MH) : Option MA := match D with
  | .ref a :: r => if m_na j + 1 ≤ st.length ∧ m_cat r ≤ 8 ∧ (if (m_m j).2.1.cls = "java/lang/String" then (h_k h a).1 = 40 else m_cnm ((h_k h a).1 - 1) = (m_m j).2.1.cls ∧ 16 ≤ a ∧ 0 < (h_k h a).1 ∧ (h_k h a).1 < 11) then some (.inr (.inr (j, .ref a :: (st.take (m_na j)).reverse, r, pc + 3))) else none
  | _ => none
theorem p_vc (j : Nat) {D : List AV} {D' : List Value} (hs : g_s s st st') (hd : g_s s D D') (hh : g_h s A h) : g_P s (k_vc j pc st D A) (f_vc j pc st' D' h) := by
  unfold k_vc
  split
  · next a r =>
    obtain ⟨v, q, rfl, ha, hq⟩ := g_sc hd
    cases (ha : v = .ref a)
    split
    · next o eo =>
      unfold f_vc
      dsimp only
      rw [(hh.2.2.1 a o eo).1, g_ct hq, g_len hs]
      by_cases hc : m_na j + 1 ≤ st.length ∧ b_ct r ≤ 8 ∧ (if (m_m j).2.1.cls = "java/lang/String" then o.1.1 = 40 else m_cnm (o.1.1 - 1) = (m_m j).2.1.cls ∧ 16 ≤ a ∧ 0 < o.1.1 ∧ o.1.1 < 11)
      · rw [if_pos hc, if_pos hc]
        intro r9 e9
        cases e9
        exact ⟨_, rfl, rfl, ⟨rfl, g_rv (g_tk _ hs)⟩, hq, rfl⟩
      · rw [if_neg hc]
        exact p_no _ _
    · exact p_no _ _
  · exact p_no _ _
theorem p_call (kd i idx : Nat) (hl : g_l s lv lv') (hs : g_s s st st') (hh : g_h s A h) : g_P s (c_call kd i idx pc lv st A) (e_call kd i idx pc lv' st' h) := by
  unfold c_call e_call
  generalize m_ml i idx = o
  match o with
  | none => exact p_no _ _
  | some (nest, j) =>
    dsimp only
    by_cases h9 : j = 900
    · rw [if_pos h9, if_pos h9]
      exact p_ini kd i hl hs hh
    · rw [if_neg h9, if_neg h9]
      by_cases h1 : j = 901
      · rw [if_pos h1, if_pos h1]
        by_cases hk : kd = 0
        · rw [if_pos hk, if_pos hk]
          exact p_cp i hl hs hh
        · rw [if_neg hk]
          exact p_no _ _
      · rw [if_neg h1, if_neg h1]
        by_cases h2 : j = m_jmin ∨ j = m_jmax
        · rw [if_pos h2, if_pos h2]
          exact p_mi j kd nest i hl hs hh
        · rw [if_neg h2, if_neg h2]
          by_cases h3 : j = m_jminl ∨ j = m_jmaxl
          · rw [if_pos h3, if_pos h3]
            exact p_ml j kd nest i hl hs hh
          · rw [if_neg h3, if_neg h3]
            by_cases h4 : 0 < j ∧ j < 292 ∧ m_kind j = kd ∧ m_fr j + 1 ≤ m_fr i ∧ 8 + (m_lc j + 11) + m_lo j ≤ m_lo i
            · rw [if_pos h4, if_pos h4]
              by_cases hk : kd = 0
              · rw [if_pos hk, if_pos hk, g_len hs, g_ct (g_dr (m_na j) hs)]
                by_cases h5 : m_na j ≤ st.length ∧ b_ct (st.drop (m_na j)) ≤ 8
                · rw [if_pos h5, if_pos h5]
                  intro r9 e9
                  cases e9
                  exact ⟨_, rfl, rfl, g_rv (g_tk _ hs), g_dr _ hs, rfl⟩
                · rw [if_neg h5]
                  exact p_no _ _
              · rw [if_neg hk, if_neg hk]
                exact p_vc j hs (g_dr (m_na j) hs) hh
            · rw [if_neg h4]
              exact p_no _ _
theorem p_pu {a : AV} {v : Value} (hl : g_l s lv lv') (hs : g_s s st st') (hh : g_h s A h) (hv : g_v s a v) : g_P s (b_go pc lv (a :: st) A) (m_go pc lv' (v :: st') h) := p_go hl ⟨hv, hs⟩ hh
theorem g_bi (x : Int32) : g_v s (b_i x) (.int x) := ⟨_, rfl, g_iE _⟩
theorem g_bl (x : Int64) : g_v s (b_l x) (.long x) := ⟨_, rfl, g_jE _⟩
theorem g_br (a : Nat) : g_v s (b_r a) (.ref a) := rfl
theorem p_ldl (i idx : Nat) (hl : g_l s lv lv') (hs : g_s s st st') (hh : g_h s A h) : g_P s (c_ex s i pc (.ldc2_w idx) lv st A) (m_ex i pc (.ldc2_w idx) lv' st' h) := by
  show g_P s (match m_jc i idx with
      | some x => b_go (pc + 3) lv (b_l x :: st) A
      | none => none) (match m_jc i idx with
      | some x => m_go (pc + 3) lv' (.long x :: st') h
      | none => none)
  generalize m_jc i idx = o
  match o with
  | none => exact p_no _ _
  | some x => exact p_pu hl hs hh (g_bl x)
theorem p_lcmp (i : Nat) (hl : g_l s lv lv') (hs : g_s s st st') (hh : g_h s A h) : g_P s (c_ex s i pc .lcmp lv st A) (m_ex i pc .lcmp lv' st' h) := by
  unfold c_ex
  dsimp only
  split
  · next y x r =>
    obtain ⟨v, q, rfl, ⟨y', rfl, hy⟩, hq1⟩ := g_sc hs
    obtain ⟨v, q, rfl, ⟨x', rfl, hx⟩, hq⟩ := g_sc hq1
    exact p_pu hl hq hh ⟨_, rfl, g_lc hx hy⟩
  · exact p_no _ _
theorem p_dup (i : Nat) (hl : g_l s lv lv') (hs : g_s s st st') (hh : g_h s A h) : g_P s (c_ex s i pc .dup lv st A) (m_ex i pc .dup lv' st' h) := by
  unfold c_ex
  dsimp only
  split
  · next a r =>
    obtain ⟨v, q, rfl, hv, hq⟩ := g_sc hs
    show g_P s _ (if v.category = 1 then m_go (pc + 1) lv' (v :: v :: q) h else none)
    rw [g_catE hv]
    split
    · exact p_go hl ⟨hv, hv, hq⟩ hh
    · exact p_no _ _
  · exact p_no _ _
theorem p_pop (i : Nat) (hl : g_l s lv lv') (hs : g_s s st st') (hh : g_h s A h) : g_P s (c_ex s i pc .pop lv st A) (m_ex i pc .pop lv' st' h) := by
  unfold c_ex
  dsimp only
  split
  · next a r =>
    obtain ⟨v, q, rfl, hv, hq⟩ := g_sc hs
    show g_P s _ (if v.category = 1 then m_go (pc + 1) lv' q h else none)
    rw [g_catE hv]
    split
    · exact p_go hl hq hh
    · exact p_no _ _
  · exact p_no _ _
theorem p_dup2 (i : Nat) (hl : g_l s lv lv') (hs : g_s s st st') (hh : g_h s A h) : g_P s (c_ex s i pc .dup2 lv st A) (m_ex i pc .dup2 lv' st' h) := by
  unfold c_ex
  dsimp only
  split
  · next a b r =>
    obtain ⟨v, q, rfl, hv, hq1⟩ := g_sc hs
    obtain ⟨w, q, rfl, hw, hq⟩ := g_sc hq1
    show g_P s _ (if v.category = 1 ∧ w.category = 1 then m_go (pc + 1) lv' (v :: w :: v :: w :: q) h else none)
    rw [g_catE hv, g_catE hw]
    split
    · exact p_go hl ⟨hv, hw, hv, hw, hq⟩ hh
    · exact p_no _ _
  · exact p_no _ _
theorem p_if (i : Nat) (c : ClassFile.Cond) (off : Int) (hl : g_l s lv lv') (hs : g_s s st st') (hh : g_h s A h) : g_P s (c_ex s i pc (.ifCond c off) lv st A) (m_ex i pc (.ifCond c off) lv' st' h) := by
  unfold c_ex
  dsimp only
  split
  · next x r =>
    obtain ⟨v, q, rfl, ⟨x', rfl, hx⟩, hq⟩ := g_sc hs
    exact p_br (fun r e => g_cmp hx (show g_i (0, 0) (0 : Int32) from ⟨by decide, by decide⟩) e) hl hq hh
  · exact p_no _ _
theorem p_ic (i : Nat) (c : ClassFile.Cond) (off : Int) (hl : g_l s lv lv') (hs : g_s s st st') (hh : g_h s A h) : g_P s (c_ex s i pc (.if_icmp c off) lv st A) (m_ex i pc (.if_icmp c off) lv' st' h) := by
  unfold c_ex
  dsimp only
  split
  · next y x r =>
    obtain ⟨v, q, rfl, ⟨y', rfl, hy⟩, hq1⟩ := g_sc hs
    obtain ⟨v, q, rfl, ⟨x', rfl, hx⟩, hq⟩ := g_sc hq1
    exact p_br (fun r e => g_cmp hx hy e) hl hq hh
  · exact p_no _ _
theorem p_nul (i : Nat) (off : Int) (hl : g_l s lv lv') (hs : g_s s st st') (hh : g_h s A h) : g_P s (c_ex s i pc (.ifnull off) lv st A) (m_ex i pc (.ifnull off) lv' st' h) := by
  unfold c_ex
  dsimp only
  split
  · next a r =>
    obtain ⟨v, q, rfl, ha, hq⟩ := g_sc hs
    cases (ha : v = .ref a)
    show g_P s _ (if a = 0 then m_tg pc off lv' q h else if 16 ≤ a then m_go (pc + 3) lv' q h else none)
    by_cases h0 : a = 0
    · rw [if_pos h0, if_pos h0]
      exact p_tg hl hq hh
    · rw [if_neg h0, if_neg h0]
      by_cases h1 : 16 ≤ a
      · rw [if_pos h1, if_pos h1]
        exact p_go hl hq hh
      · rw [if_neg h1]
        exact p_no _ _
  · exact p_no _ _
theorem p_nnl (i : Nat) (off : Int) (hl : g_l s lv lv') (hs : g_s s st st') (hh : g_h s A h) : g_P s (c_ex s i pc (.ifnonnull off) lv st A) (m_ex i pc (.ifnonnull off) lv' st' h) := by
  unfold c_ex
  dsimp only
  split
  · next a r =>
    obtain ⟨v, q, rfl, ha, hq⟩ := g_sc hs
    cases (ha : v = .ref a)
    show g_P s _ (if a = 0 then m_go (pc + 3) lv' q h else if 16 ≤ a then m_tg pc off lv' q h else none)
    by_cases h0 : a = 0
    · rw [if_pos h0, if_pos h0]
      exact p_go hl hq hh
    · rw [if_neg h0, if_neg h0]
      by_cases h1 : 16 ≤ a
      · rw [if_pos h1, if_pos h1]
        exact p_tg hl hq hh
      · rw [if_neg h1]
        exact p_no _ _
  · exact p_no _ _
theorem g_rok {t : Option FieldType} {p : AI} {x : Int32} (hx : g_i p x) (e : b_rok t p = true) : m_rok t x = true := by
  unfold b_rok at e
  split at e
  · rfl
  · rw [Bool.and_eq_true] at e
    have e1 := of_decide_eq_true e.1
    rw [g_iC hx e1]
    exact e.2
theorem p_ir (i : Nat) (hl : g_l s lv lv') (hs : g_s s st st') (hh : g_h s A h) : g_P s (c_ex s i pc .ireturn lv st A) (m_ex i pc .ireturn lv' st' h) := by
  unfold c_ex
  dsimp only
  split
  · next x =>
    obtain ⟨v, q, rfl, ⟨x', rfl, hx⟩, hq⟩ := g_sc hs
    rw [g_sn hq]
    show g_P s _ (if m_rok (m_rt i) x' = true then some (.inr (.inl (some (.int x'), h))) else none)
    by_cases hc : b_rok (m_rt i) x = true
    · rw [if_pos hc, if_pos (g_rok hx hc)]
      intro r e
      cases e
      exact ⟨_, rfl, ⟨_, rfl, hx⟩, hh⟩
    · rw [if_neg hc]
      exact p_no _ _
  · exact p_no _ _
theorem p_lr (i : Nat) (hl : g_l s lv lv') (hs : g_s s st st') (hh : g_h s A h) : g_P s (c_ex s i pc .lreturn lv st A) (m_ex i pc .lreturn lv' st' h) := by
  unfold c_ex
  dsimp only
  split
  · next x =>
    obtain ⟨v, q, rfl, ⟨x', rfl, hx⟩, hq⟩ := g_sc hs
    rw [g_sn hq]
    show g_P s _ (if m_rt i = some .long then some (.inr (.inl (some (.long x'), h))) else none)
    by_cases hc : m_rt i = some .long
    · rw [if_pos hc, if_pos hc]
      intro r e
      cases e
      exact ⟨_, rfl, ⟨_, rfl, hx⟩, hh⟩
    · rw [if_neg hc]
      exact p_no _ _
  · exact p_no _ _
theorem p_ar (i : Nat) (hl : g_l s lv lv') (hs : g_s s st st') (hh : g_h s A h) : g_P s (c_ex s i pc .areturn lv st A) (m_ex i pc .areturn lv' st' h) := by
  unfold c_ex
  dsimp only
  split
  · next a =>
    obtain ⟨v, q, rfl, ha, hq⟩ := g_sc hs
    cases (ha : v = .ref a)
    rw [g_sn hq]
    show g_P s _ (if m_rr (m_rt i) = true then some (.inr (.inl (some (.ref a), h))) else none)
    by_cases hc : m_rr (m_rt i) = true
    · rw [if_pos hc, if_pos hc]
      intro r e
      cases e
      exact ⟨_, rfl, rfl, hh⟩
    · rw [if_neg hc]
      exact p_no _ _
  · exact p_no _ _
theorem p_vr (i : Nat) (hl : g_l s lv lv') (hs : g_s s st st') (hh : g_h s A h) : g_P s (c_ex s i pc .return_ lv st A) (m_ex i pc .return_ lv' st' h) := by
  unfold c_ex
  dsimp only
  split
  · rw [g_sn hs]
    show g_P s _ (if m_rt i = none then some (.inr (.inl (none, h))) else none)
    by_cases hc : m_rt i = none
    · rw [if_pos hc, if_pos hc]
      intro r e
      cases e
      exact ⟨_, rfl, trivial, hh⟩
    · rw [if_neg hc]
      exact p_no _ _
  · exact p_no _ _
theorem p_ex (i : Nat) (ins : Instr) (hl : g_l s lv lv') (hs : g_s s st st') (hh : g_h s A h) : g_P s (c_ex s i pc ins lv st A) (m_ex i pc ins lv' st' h) := by
  cases ins with
  | iconst n => exact p_pu hl hs hh (g_bi _)
  | bipush n => exact p_pu hl hs hh (g_bi _)
  | sipush n => exact p_pu hl hs hh (g_bi _)
  | lconst n => exact p_pu hl hs hh (g_bl _)
  | aconst_null => exact p_pu hl hs hh (g_br _)
  | ldc idx => exact p_ldc 2 i idx hl hs hh
  | ldc_w idx => exact p_ldc 3 i idx hl hs hh
  | ldc2_w idx => exact p_ldl i idx hl hs hh
  | iload_n k => exact p_ild k hl hs hh
  | iload k => exact p_ild k hl hs hh
  | lload_n k => exact p_lld k hl hs hh
  | lload k => exact p_lld k hl hs hh
  | aload_n k => exact p_ald k hl hs hh
  | aload k => exact p_ald k hl hs hh
  | istore_n k => exact p_ist _ k hl hs hh
  | istore k => exact p_ist _ k hl hs hh
  | lstore_n k => exact p_lst _ k hl hs hh
  | lstore k => exact p_lst _ k hl hs hh
  | astore_n k => exact p_ast _ k hl hs hh
  | astore k => exact p_ast _ k hl hs hh
  | iinc k z => exact p_inc _ k z hl hs hh
  | iadd => exact p_ii _ hl hs hh
  | isub => exact p_ii _ hl hs hh
  | imul => exact p_ii _ hl hs hh
  | iand => exact p_and hl hs hh
  | ior => exact p_ii _ hl hs hh
  | ixor => exact p_ii _ hl hs hh
  | idiv => exact p_dv _ hl hs hh
  | irem => exact p_dv _ hl hs hh
  | ineg => exact p_i1 _ hl hs hh
  | ishl => exact p_ii _ hl hs hh
  | ishr => exact p_ii _ hl hs hh
  | iushr => exact p_ii _ hl hs hh
  | ladd => exact p_ll _ hl hs hh
  | lsub => exact p_ll _ hl hs hh
  | land => exact p_ll _ hl hs hh
  | lor => exact p_ll _ hl hs hh
  | lxor => exact p_ll _ hl hs hh
  | lneg => exact p_l1 _ hl hs hh
  | lshl => exact p_li _ hl hs hh
  | lshr => exact p_li _ hl hs hh
  | lushr => exact p_li _ hl hs hh
  | lcmp => exact p_lcmp i hl hs hh
  | i2l => exact p_il _ hl hs hh
  | l2i => exact p_l2i _ hl hs hh
  | i2b => exact p_i1 _ hl hs hh
  | i2c => exact p_i1 _ hl hs hh
  | dup => exact p_dup i hl hs hh
  | pop => exact p_pop i hl hs hh
  | dup2 => exact p_dup2 i hl hs hh
  | goto off => exact p_tg hl hs hh
  | ifCond c off => exact p_if i c off hl hs hh
  | if_icmp c off => exact p_ic i c off hl hs hh
  | ifnull off => exact p_nul i off hl hs hh
  | ifnonnull off => exact p_nnl i off hl hs hh
  | tableswitch d lo hi offs => exact p_sw d lo hi offs hl hs hh
  | getfield idx => exact p_get i idx hl hs hh
  | putfield idx => exact p_put i idx hl hs hh
  | getstatic idx => exact p_gets i idx hl hs hh
  | iaload => exact p_iald 20 20 hl hs hh
  | baload => exact p_iald 21 22 hl hs hh
  | laload => exact p_lald hl hs hh
  | aaload => exact p_aald hl hs hh
  | iastore => exact p_iast hl hs hh
  | bastore => exact p_bast hl hs hh
  | lastore => exact p_last hl hs hh
  | aastore => exact p_aast hl hs hh
  | arraylength => exact p_alen hl hs hh
  | newarray t => exact p_newa t hl hs hh
  | new idx => exact p_new i idx hl hs hh
  | anewarray idx => exact p_anew i idx hl hs hh
  | invokestatic idx => exact p_call 0 i idx hl hs hh
  | invokevirtual idx => exact p_call 1 i idx hl hs hh
  | invokespecial idx => exact p_call 2 i idx hl hs hh
  | ireturn => exact p_ir i hl hs hh
  | lreturn => exact p_lr i hl hs hh
  | areturn => exact p_ar i hl hs hh
  | return_ => exact p_vr i hl hs hh
  | _ => exact p_no _ _
end
theorem b_ffE (l : List m_I) (pc : Nat) : b_ff l pc = l.find? (fun e => e.1 == pc) := by
  induction l with
  | nil => rfl
  | cons e r ih =>
    rw [List.find?_cons, ← ih]
    show Bool.rec (motive := fun _ => Option m_I) (b_ff r pc) (some e) (Nat.beq e.1 pc) = _
    by_cases h : e.1 = pc
    · rw [show Nat.beq e.1 pc = true from by rw [h]; exact Nat.beq_refl pc, show (e.1 == pc) = true from beq_iff_eq.mpr h]
    · rw [show (e.1 == pc) = false from beq_eq_false_iff_ne.mpr h]
      cases hb : Nat.beq e.1 pc with
      | true => exact absurd (Nat.eq_of_beq_eq_true hb) h
      | false => rfl
theorem p_st {s : AI} {lv : AL} {st : List AV} {A : AH} {lv' : List (Nat × Value)} {st' : List Value} {h : MH} (i pc : Nat) (hl : g_l s lv lv') (hs : g_s s st st') (hh : g_h s A h) : g_P s (c_st s i pc lv st A) (m_st i pc lv' st' h) := by
  unfold c_st m_st m_at m_lk
  rw [b_ffE]
  cases hf : (m_m i).1.find? (fun e => e.1 == pc) with
  | none => exact p_no _ _
  | some e =>
    have h1 : e.1 = pc := by
      have := List.find?_some hf
      exact beq_iff_eq.mp this
    dsimp only [Option.map]
    by_cases hc : m_ln e.2.1 = e.2.2 ∨ m_ln e.2.1 = 0
    · rw [if_pos hc, if_pos hc, h1]
      exact p_ex i e.2.1 hl hs hh
    · rw [if_neg hc]
      exact p_no _ _
theorem c_sim (s : AI) : ∀ (n i pc : Nat) (lv : AL) (st : List AV) (A : AH) (v : Option AV) (A2 : AH), c_rn s n i pc lv st A = some (v, A2) → ∀ (lv' : List (Nat × Value)) (st' : List Value) (h : MH), g_l s lv lv' → g_s s st st' → g_h s A h → ∃ v' h', m_rn n i pc lv' st' h = some (v', h') ∧ g_o s v v' ∧ g_h s A2 h'
  | 0, _, _, _, _, _, _, _, e => by cases e
  | n + 1, i, pc, lv, st, A, v, A2, e => fun lv' st' h hl hs hh => by
    have P := p_st i pc hl hs hh
    rw [c_rn] at e
    rw [m_rn]
    cases hR : c_st s i pc lv st A with
    | none => rw [hR] at e; cases e
    | some R =>
      obtain ⟨R', e2, g⟩ := P R hR
      rw [hR] at e
      rw [e2]
      match R, R', g with
      | .inl (pc1, lv1, st1, A1), .inl (pc1', lv1', st1', h1), g =>
        obtain ⟨g1, g2, g3, g4⟩ := g
        rw [g1]
        exact c_sim s n i pc1 lv1 st1 A1 v A2 e lv1' st1' h1 g2 g3 g4
      | .inr (.inl (v1, A1)), .inr (.inl (v1', h1)), g =>
        cases e
        exact ⟨_, _, rfl, g.1, g.2⟩
      | .inr (.inr (j, as, r, pc1)), .inr (.inr (j', as', r', pc1')), g =>
        obtain ⟨g1, g2, g3, g4⟩ := g
        rw [g1, g4]
        dsimp only at e ⊢
        rw [g_ct g2]
        by_cases hc : b_ct as ≤ m_lc j
        · rw [if_pos hc] at e ⊢
          cases hc1 : c_rn s n j 0 (b_args 0 as) [] A with
          | none => rw [hc1] at e; cases e
          | some q =>
            obtain ⟨v1, A1⟩ := q
            rw [hc1] at e
            obtain ⟨v1', h1, k1, k2, k3⟩ := c_sim s n j 0 _ [] A v1 A1 hc1 (lv_args 0 as') [] h (g_args 0 g2) trivial hh
            rw [k1]
            refine c_sim s n i pc1 lv _ A1 v A2 e lv' _ h1 hl (g_app ?_ g3) k3
            cases v1 with
            | none => cases v1' with
              | none => trivial
              | some x => exact k2.elim
            | some x => cases v1' with
              | none => exact k2.elim
              | some y => exact ⟨k2, trivial⟩
        · rw [if_neg hc] at e
          cases e
      | .inl _, .inr (.inl _), g => exact g.elim
      | .inl _, .inr (.inr _), g => exact g.elim
      | .inr (.inl _), .inl _, g => exact g.elim
      | .inr (.inl _), .inr (.inr _), g => exact g.elim
      | .inr (.inr _), .inl _, g => exact g.elim
      | .inr (.inr _), .inr (.inl _), g => exact g.elim
