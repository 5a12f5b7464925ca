-- one step with ranges is true of every step within them
def g_P (s : AI) (R : Option AA) (R' : Option MA) : Prop := ∀ r, R = some r → ∃ r', R' = some r' ∧ g_r s r r'
theorem p_no (s : AI) (R' : Option MA) : g_P s none R' := fun _ h => by cases h
theorem p_go {s : AI} {pc : Nat} {lv : AL} {st : List AV} {A : AH} {lv' : List (Nat × Value)} {st' : List Value} {h : MH} (hl : g_l s lv lv') (hs : g_s s st st') (hh : g_h s A h) : g_P s (b_go pc lv st A) (m_go pc lv' st' h) := fun r e => by
  cases (Option.some.inj e)
  exact ⟨_, rfl, rfl, hl, hs, hh⟩
theorem p_tg {s : AI} {pc : Nat} {off : Int} {lv : AL} {st : List AV} {A : AH} {lv' : List (Nat × Value)} {st' : List Value} {h : MH} (hl : g_l s lv lv') (hs : g_s s st st') (hh : g_h s A h) : g_P s (b_tg pc off lv st A) (m_tg pc off lv' st' h) := by
  unfold b_tg m_tg
  by_cases hc : 0 ≤ (pc : Int) + off
  · rw [if_pos hc, if_pos hc]
    intro r e
    cases e
    exact ⟨_, rfl, rfl, hl, hs, hh⟩
  · rw [if_neg hc]
    exact p_no _ _
theorem p_br {s : AI} {b : Option Bool} {b' : Bool} {pc : Nat} {off : Int} {lv : AL} {st : List AV} {A : AH} {lv' : List (Nat × Value)} {st' : List Value} {h : MH} (hb : ∀ r, b = some r → b' = r) (hl : g_l s lv lv') (hs : g_s s st st') (hh : g_h s A h) : g_P s (b_br b pc off lv st A) (m_br b' pc off lv' st' h) := by
  unfold b_br m_br
  by_cases hc : 0 ≤ (pc : Int) + off
  · rw [if_pos hc, if_pos hc]
    cases b with
    | none => exact p_no _ _
    | some r =>
      rw [hb r rfl]
      cases r with
      | true =>
        intro r e
        cases e
        exact ⟨_, rfl, rfl, hl, hs, hh⟩
      | false => exact p_go hl hs hh
  · rw [if_neg hc]
    exact p_no _ _
def e_sw (d lo hi : Int) (offs : Array Int) (pc : Nat) (lv : List (Nat × Value)) (st : List Value) (h : MH) : Option MA := match st with
  | .int x :: r => if x.toInt < lo ∨ hi < x.toInt then m_tg pc d lv r h else (match offs[(x.toInt - lo).toNat]? with
    | some o => m_tg pc o lv r h
    | none => none)
  | _ => none
section
variable {s : AI} {pc : Nat} {lv : AL} {st : List AV} {A : AH} {lv' : List (Nat × Value)} {st' : List Value} {h : MH}
theorem p_ii (f : Int32 → Int32 → Int32) (hl : g_l s lv lv') (hs : g_s s st st') (hh : g_h s A h) : g_P s (c_ii f pc lv st A) (e_ii f pc lv' st' h) := by
  unfold c_ii
  split
  · next y x r =>
    obtain ⟨v, q, rfl, ⟨y', rfl, hy⟩, hq1⟩ := g_sc hs
    obtain ⟨v, q, rfl, ⟨x', rfl, hx⟩, hq⟩ := g_sc hq1
    exact p_go hl ⟨⟨_, rfl, g_f2 hx hy⟩, hq⟩ hh
  · exact p_no _ _
theorem p_and (hl : g_l s lv lv') (hs : g_s s st st') (hh : g_h s A h) : g_P s (c_and s pc lv st A) (e_ii (fun x y => x &&& y) pc lv' st' h) := by
  unfold c_and
  split
  · next y x r =>
    obtain ⟨v, q, rfl, ⟨y', rfl, hy⟩, hq1⟩ := g_sc hs
    obtain ⟨v, q, rfl, ⟨x', rfl, hx⟩, hq⟩ := g_sc hq1
    exact p_go hl ⟨⟨_, rfl, g_f2 (f := fun x y => x &&& y) hx hy⟩, hq⟩ hh
  · next y u r =>
    obtain ⟨v, q, rfl, ⟨y', rfl, hy⟩, hq1⟩ := g_sc hs
    obtain ⟨v, q, rfl, ⟨x', rfl, hx⟩, hq⟩ := g_sc hq1
    split
    · next e =>
      have e2 : y' = 63 := by rw [g_iC hy (by rw [e]), e]; rfl
      rw [e2]
      exact p_go hl ⟨⟨_, rfl, hx⟩, hq⟩ hh
    · exact p_no _ _
  · exact p_no _ _
theorem p_ll (f : Int64 → Int64 → Int64) (hl : g_l s lv lv') (hs : g_s s st st') (hh : g_h s A h) : g_P s (c_ll f pc lv st A) (e_ll f pc lv' st' h) := by
  unfold c_ll
  split
  · next y x r =>
    obtain ⟨v, q, rfl, ⟨y', rfl, hy⟩, hq1⟩ := g_sc hs
    obtain ⟨v, q, rfl, ⟨x', rfl, hx⟩, hq⟩ := g_sc hq1
    exact p_go hl ⟨⟨_, rfl, g_g2 hx hy⟩, hq⟩ hh
  · exact p_no _ _
theorem p_li (f : Int64 → Int32 → Int64) (hl : g_l s lv lv') (hs : g_s s st st') (hh : g_h s A h) : g_P s (c_li f pc lv st A) (e_li f pc lv' st' h) := by
  unfold c_li
  split
  · next y x r =>
    obtain ⟨v, q, rfl, ⟨y', rfl, hy⟩, hq1⟩ := g_sc hs
    obtain ⟨v, q, rfl, ⟨x', rfl, hx⟩, hq⟩ := g_sc hq1
    exact p_go hl ⟨⟨_, rfl, g_gi hx hy⟩, hq⟩ hh
  · exact p_no _ _
theorem p_i1 (f : Int32 → Int32) (hl : g_l s lv lv') (hs : g_s s st st') (hh : g_h s A h) : g_P s (c_i1 f pc lv st A) (e_i (fun x => .int (f x)) pc lv' st' h) := by
  unfold c_i1
  split
  · next x r =>
    obtain ⟨v, q, rfl, ⟨x', rfl, hx⟩, hq⟩ := g_sc hs
    exact p_go hl ⟨⟨_, rfl, g_f1 hx⟩, hq⟩ hh
  · exact p_no _ _
theorem p_il (f : Int32 → Int64) (hl : g_l s lv lv') (hs : g_s s st st') (hh : g_h s A h) : g_P s (c_il f pc lv st A) (e_i (fun x => .long (f x)) pc lv' st' h) := by
  unfold c_il
  split
  · next x r =>
    obtain ⟨v, q, rfl, ⟨x', rfl, hx⟩, hq⟩ := g_sc hs
    exact p_go hl ⟨⟨_, rfl, g_il hx⟩, hq⟩ hh
  · exact p_no _ _
theorem p_l2i (f : Int64 → Int32) (hl : g_l s lv lv') (hs : g_s s st st') (hh : g_h s A h) : g_P s (c_l2i f pc lv st A) (e_l (fun x => .int (f x)) pc lv' st' h) := by
  unfold c_l2i
  split
  · next x r =>
    obtain ⟨v, q, rfl, ⟨x', rfl, hx⟩, hq⟩ := g_sc hs
    exact p_go hl ⟨⟨_, rfl, g_li hx⟩, hq⟩ hh
  · exact p_no _ _
theorem p_l1 (f : Int64 → Int64) (hl : g_l s lv lv') (hs : g_s s st st') (hh : g_h s A h) : g_P s (c_l1 f pc lv st A) (e_l (fun x => .long (f x)) pc lv' st' h) := by
  unfold c_l1
  split
  · next x r =>
    obtain ⟨v, q, rfl, ⟨x', rfl, hx⟩, hq⟩ := g_sc hs
    exact p_go hl ⟨⟨_, rfl, g_ll hx⟩, hq⟩ hh
  · exact p_no _ _
theorem p_dv (f : Int32 → Int32 → Int32) (hl : g_l s lv lv') (hs : g_s s st st') (hh : g_h s A h) : g_P s (c_dv f pc lv st A) (e_dv f pc lv' st' h) := by
  unfold c_dv
  split
  · next y x r =>
    obtain ⟨v, q, rfl, ⟨y', rfl, hy⟩, hq1⟩ := g_sc hs
    obtain ⟨v, q, rfl, ⟨x', rfl, hx⟩, hq⟩ := g_sc hq1
    split
    · next hn =>
      have hy0 : ¬ y' = 0 := fun e => by
        obtain ⟨k1, k2⟩ := hy
        rw [e] at k1 k2
        have : (0 : Int32).toInt = 0 := by decide
        omega
      show g_P s _ (if y' = 0 then none else _)
      rw [if_neg hy0]
      exact p_go hl ⟨⟨_, rfl, g_f2 hx hy⟩, hq⟩ hh
    · exact p_no _ _
  · exact p_no _ _
theorem p_ild (k : Nat) (hl : g_l s lv lv') (hs : g_s s st st') (hh : g_h s A h) : g_P s (c_ild k pc lv st A) (e_ild k pc lv' st' h) := by
  unfold c_ild e_ild
  split
  · next x e =>
    obtain ⟨v, e2, ⟨x', rfl, hx⟩⟩ := g_lk hl e
    rw [e2]
    exact p_go hl ⟨⟨_, rfl, hx⟩, hs⟩ hh
  · exact p_no _ _
theorem p_lld (k : Nat) (hl : g_l s lv lv') (hs : g_s s st st') (hh : g_h s A h) : g_P s (c_lld k pc lv st A) (e_lld k pc lv' st' h) := by
  unfold c_lld e_lld
  split
  · next x e =>
    obtain ⟨v, e2, ⟨x', rfl, hx⟩⟩ := g_lk hl e
    rw [e2]
    exact p_go hl ⟨⟨_, rfl, hx⟩, hs⟩ hh
  · exact p_no _ _
theorem p_ald (k : Nat) (hl : g_l s lv lv') (hs : g_s s st st') (hh : g_h s A h) : g_P s (c_ald k pc lv st A) (e_ald k pc lv' st' h) := by
  unfold c_ald e_ald
  split
  · next x e =>
    obtain ⟨v, e2, hx⟩ := g_lk hl e
    cases (hx : v = .ref x)
    rw [e2]
    exact p_go hl ⟨rfl, hs⟩ hh
  · exact p_no _ _
theorem p_ist (n k : Nat) (hl : g_l s lv lv') (hs : g_s s st st') (hh : g_h s A h) : g_P s (c_ist n k pc lv st A) (e_ist n k pc lv' st' h) := by
  unfold c_ist
  split
  · next x r =>
    obtain ⟨v, q, rfl, ⟨x', rfl, hx⟩, hq⟩ := g_sc hs
    show g_P s _ (if k < n then _ else none)
    split
    · exact p_go (g_s1 hl ⟨_, rfl, hx⟩) hq hh
    · exact p_no _ _
  · exact p_no _ _
theorem p_lst (n k : Nat) (hl : g_l s lv lv') (hs : g_s s st st') (hh : g_h s A h) : g_P s (c_lst n k pc lv st A) (e_lst n k pc lv' st' h) := by
  unfold c_lst
  split
  · next x r =>
    obtain ⟨v, q, rfl, ⟨x', rfl, hx⟩, hq⟩ := g_sc hs
    show g_P s _ (if k + 1 < n then _ else none)
    split
    · exact p_go (g_s2 hl ⟨_, rfl, hx⟩) hq hh
    · exact p_no _ _
  · exact p_no _ _
theorem p_ast (n k : Nat) (hl : g_l s lv lv') (hs : g_s s st st') (hh : g_h s A h) : g_P s (c_ast n k pc lv st A) (e_ast n k pc lv' st' h) := by
  unfold c_ast
  split
  · next x r =>
    obtain ⟨v, q, rfl, hx, hq⟩ := g_sc hs
    cases (hx : v = .ref x)
    show g_P s _ (if k < n then _ else none)
    split
    · exact p_go (g_s1 hl rfl) hq hh
    · exact p_no _ _
  · exact p_no _ _
theorem p_inc (n k : Nat) (z : Int) (hl : g_l s lv lv') (hs : g_s s st st') (hh : g_h s A h) : g_P s (c_inc n k z pc lv st A) (e_inc n k z pc lv' st' h) := by
  unfold c_inc e_inc
  split
  · next x e =>
    obtain ⟨v, e2, ⟨x', rfl, hx⟩⟩ := g_lk hl e
    rw [e2]
    dsimp only
    split
    · exact p_go (g_s1 hl ⟨_, rfl, g_f1 (f := fun x => x + Int32.ofInt z) hx⟩) hs hh
    · exact p_no _ _
  · exact p_no _ _
theorem p_get (i idx : Nat) (hl : g_l s lv lv') (hs : g_s s st st') (hh : g_h s A h) : g_P s (c_get i idx pc lv st A) (e_get i idx pc lv' st' h) := by
  unfold c_get
  split
  · next a r z c k ef =>
    obtain ⟨v, q, rfl, hx, hq⟩ := g_sc hs
    cases (hx : v = .ref a)
    unfold e_get
    rw [ef]
    dsimp only
    split
    · next o eo =>
      obtain ⟨p1, p2, p3, p4⟩ := hh.2.2.1 a o eo
      rw [p1]
      split
      · split
        · next e0 => rw [e0]; exact p_go hl ⟨⟨_, rfl, p2 k⟩, hq⟩ hh
        · next e0 => rw [e0]; exact p_go hl ⟨⟨_, rfl, p3 k⟩, hq⟩ hh
        · next n0 n1 =>
          split
          · next e0 => exact absurd e0 n0
          · next e0 => exact absurd e0 n1
          · exact p_go hl ⟨by rw [← p4 k]; rfl, hq⟩ hh
      · exact p_no _ _
    · exact p_no _ _
  · exact p_no _ _
theorem g_n14 {a : Nat} {o : AC} {c : Nat} (hh : g_h s A h) (eo : b_cell A a = some o) (hc : o.1.1 = c + 1) (h10 : c < 10) : a ≠ 14 := by
  intro e
  have h1 := (hh.2.2.1 a o eo).1
  have h2 := hh.2.2.2.2
  rw [e] at h1
  rw [h1] at h2
  omega
theorem p_put (i idx : Nat) (hl : g_l s lv lv') (hs : g_s s st st') (hh : g_h s A h) : g_P s (c_put i idx pc lv st A) (e_put i idx pc lv' st' h) := by
  unfold c_put
  split
  · next x a r z c k ef =>
    obtain ⟨v, q, rfl, ⟨x', rfl, hx⟩, hq1⟩ := g_sc hs
    obtain ⟨v, q, rfl, ha, hq⟩ := g_sc hq1
    cases (ha : v = .ref a)
    unfold e_put
    rw [ef]
    dsimp only
    split
    · next o eo =>
      rw [(hh.2.2.1 a o eo).1]
      split
      · next hc => exact p_go hl hq (g_si hh eo (g_n14 hh eo hc.1 hc.2.1) hx)
      · exact p_no _ _
    · exact p_no _ _
  · next x a r z c k ef =>
    obtain ⟨v, q, rfl, ⟨x', rfl, hx⟩, hq1⟩ := g_sc hs
    obtain ⟨v, q, rfl, ha, hq⟩ := g_sc hq1
    cases (ha : v = .ref a)
    unfold e_put
    rw [ef]
    dsimp only
    split
    · next o eo =>
      rw [(hh.2.2.1 a o eo).1]
      split
      · next hc => exact p_go hl hq (g_sl hh eo (g_n14 hh eo hc.1 hc.2.1) hx)
      · exact p_no _ _
    · exact p_no _ _
  · next x a r z c k ef =>
    obtain ⟨v, q, rfl, hx, hq1⟩ := g_sc hs
    cases (hx : v = .ref x)
    obtain ⟨v, q, rfl, ha, hq⟩ := g_sc hq1
    cases (ha : v = .ref a)
    unfold e_put
    rw [ef]
    dsimp only
    split
    · next o eo =>
      rw [(hh.2.2.1 a o eo).1]
      split
      · next hc => exact p_go hl hq (g_sr hh eo (g_n14 hh eo hc.1 hc.2.1))
      · exact p_no _ _
    · exact p_no _ _
  · exact p_no _ _
theorem g_at {j : AI} {x : Int32} {n : Nat} (hj : g_i j x) (e : b_at j n = true) : m_in x n = true := by
  obtain ⟨h1, h2⟩ := hj
  unfold b_at at e
  rw [Bool.and_eq_true] at e
  have e1 := of_decide_eq_true e.1
  have e2 := of_decide_eq_true e.2
  unfold m_in
  rw [Bool.and_eq_true]
  refine ⟨decide_eq_true (fun q => ?_), decide_eq_true ?_⟩
  · have := Int32.lt_iff_toInt_lt.mp q
    have : (0 : Int32).toInt = 0 := by decide
    omega
  · show x.toInt.toNat < n
    omega
theorem g_ix {j : AI} {x : Int32} (hj : g_i j x) (hc : j.1 = j.2) : x.toNatClampNeg = j.1.toNat := by
  obtain ⟨h1, h2⟩ := hj
  show x.toInt.toNat = _
  omega
theorem g_rdi {d : AR} {j : AI} {x : Int32} {f : Nat → Int32} (hj : g_i j x) (hf : ∀ k, g_i (b_rw d k) (f k)) : g_i (b_rd d j) (f x.toNatClampNeg) := by
  unfold b_rd
  split
  · next e =>
    rw [g_ix hj e]
    exact hf _
  · exact g_all d _ (hf _)
theorem g_rdj {d : AR} {j : AI} {x : Int32} {f : Nat → Int64} (hj : g_i j x) (hf : ∀ k, g_j (b_rw d k) (f k)) : g_j (b_rd d j) (f x.toNatClampNeg) := by
  unfold b_rd
  split
  · next e =>
    rw [g_ix hj e]
    exact hf _
  · exact g_all d _ (hf _)
theorem p_iald (k0 k1 : Nat) (hl : g_l s lv lv') (hs : g_s s st st') (hh : g_h s A h) : g_P s (c_iald k0 k1 pc s lv st A) (e_iald k0 k1 pc lv' st' h) := by
  unfold c_iald
  split
  · next j a r =>
    obtain ⟨v, q, rfl, ⟨j', rfl, hj⟩, hq1⟩ := g_sc hs
    obtain ⟨v, q, rfl, ha, hq⟩ := g_sc hq1
    cases (ha : v = .ref a)
    unfold e_iald
    dsimp only
    split
    · next o eo =>
      obtain ⟨p1, p2, p3, p4⟩ := hh.2.2.1 a o eo
      rw [p1]
      by_cases hc : (o.1.1 = k0 ∨ o.1.1 = k1) ∧ b_at j o.1.2 = true
      · have hc2 : (o.1.1 = k0 ∨ o.1.1 = k1) ∧ m_in j' o.1.2 = true := ⟨hc.1, g_at hj hc.2⟩
        rw [if_pos hc, if_pos hc2]
        by_cases e14 : a = 14
        · rw [if_pos e14]
          by_cases e0 : j = (0, 0)
          · rw [if_pos e0]
            have e1 : j'.toNatClampNeg = 0 := by rw [g_ix hj (by rw [e0]), e0]; rfl
            refine p_go hl ⟨⟨_, rfl, ?_⟩, hq⟩ hh
            rw [e1, e14]
            exact hh.2.2.2.1
          · rw [if_neg e0]
            by_cases e2 : j.1 = j.2
            · rw [if_pos e2]
              refine p_go hl ⟨⟨_, rfl, ?_⟩, hq⟩ hh
              rw [g_ix hj e2]
              exact p2 _
            · rw [if_neg e2]
              exact p_no _ _
        · rw [if_neg e14]
          exact p_go hl ⟨⟨_, rfl, g_rdi hj p2⟩, hq⟩ hh
      · rw [if_neg hc]
        exact p_no _ _
    · exact p_no _ _
  · exact p_no _ _
theorem p_lald (hl : g_l s lv lv') (hs : g_s s st st') (hh : g_h s A h) : g_P s (c_lald pc lv st A) (e_lald pc lv' st' h) := by
  unfold c_lald
  split
  · next j a r =>
    obtain ⟨v, q, rfl, ⟨j', rfl, hj⟩, hq1⟩ := g_sc hs
    obtain ⟨v, q, rfl, ha, hq⟩ := g_sc hq1
    cases (ha : v = .ref a)
    unfold e_lald
    dsimp only
    split
    · next o eo =>
      obtain ⟨p1, p2, p3, p4⟩ := hh.2.2.1 a o eo
      rw [p1]
      split
      · next hc =>
        rw [if_pos ⟨hc.1, g_at hj hc.2⟩]
        exact p_go hl ⟨⟨_, rfl, g_rdj hj p3⟩, hq⟩ hh
      · exact p_no _ _
    · exact p_no _ _
  · exact p_no _ _
theorem p_aald (hl : g_l s lv lv') (hs : g_s s st st') (hh : g_h s A h) : g_P s (c_aald pc lv st A) (e_aald pc lv' st' h) := by
  unfold c_aald
  split
  · next j a r =>
    obtain ⟨v, q, rfl, ⟨j', rfl, hj⟩, hq1⟩ := g_sc hs
    obtain ⟨v, q, rfl, ha, hq⟩ := g_sc hq1
    cases (ha : v = .ref a)
    unfold e_aald
    dsimp only
    split
    · next o eo =>
      obtain ⟨p1, p2, p3, p4⟩ := hh.2.2.1 a o eo
      rw [p1]
      split
      · next hc =>
        rw [if_pos ⟨hc.1, g_at hj hc.2.1⟩]
        refine p_go hl ⟨?_, hq⟩ hh
        rw [g_ix hj hc.2.2, p4]
        rfl
      · exact p_no _ _
    · exact p_no _ _
  · exact p_no _ _
theorem p_iast (hl : g_l s lv lv') (hs : g_s s st st') (hh : g_h s A h) : g_P s (c_iast pc lv st A) (e_iast pc lv' st' h) := by
  unfold c_iast
  split
  · next x j a r =>
    obtain ⟨v, q, rfl, ⟨x', rfl, hx⟩, hq1⟩ := g_sc hs
    obtain ⟨v, q, rfl, ⟨j', rfl, hj⟩, hq2⟩ := g_sc hq1
    obtain ⟨v, q, rfl, ha, hq⟩ := g_sc hq2
    cases (ha : v = .ref a)
    unfold e_iast
    dsimp only
    split
    · next o eo =>
      rw [(hh.2.2.1 a o eo).1]
      split
      · next hc =>
        rw [if_pos ⟨hc.1, hc.2.1, g_at hj hc.2.2.1⟩, g_ix hj hc.2.2.2]
        exact p_go hl hq (g_si hh eo (by omega) hx)
      · exact p_no _ _
    · exact p_no _ _
  · exact p_no _ _
theorem p_bast (hl : g_l s lv lv') (hs : g_s s st st') (hh : g_h s A h) : g_P s (c_bast pc lv st A) (e_bast pc lv' st' h) := by
  unfold c_bast
  split
  · next x j a r =>
    obtain ⟨v, q, rfl, ⟨x', rfl, hx⟩, hq1⟩ := g_sc hs
    obtain ⟨v, q, rfl, ⟨j', rfl, hj⟩, hq2⟩ := g_sc hq1
    obtain ⟨v, q, rfl, ha, hq⟩ := g_sc hq2
    cases (ha : v = .ref a)
    unfold e_bast
    dsimp only
    split
    · next o eo =>
      rw [(hh.2.2.1 a o eo).1]
      split
      · next hc =>
        rw [if_pos ⟨hc.1, hc.2.1, g_at hj hc.2.2.1⟩, g_ix hj hc.2.2.2]
        exact p_go hl hq (g_si hh eo (by omega) (g_f1 (f := fun x => x.toInt8.toInt32) hx))
      · split
        · next hc =>
          rw [if_neg (fun z => by have := hc.2.1; have := z.2.1; omega), if_pos ⟨hc.1, hc.2.1, g_at hj hc.2.2.1⟩, g_ix hj hc.2.2.2]
          exact p_go hl hq (g_si hh eo (by omega) (g_f1 (f := fun x => x &&& 1) hx))
        · exact p_no _ _
    · exact p_no _ _
  · exact p_no _ _
theorem p_last (hl : g_l s lv lv') (hs : g_s s st st') (hh : g_h s A h) : g_P s (c_last pc lv st A) (e_last pc lv' st' h) := by
  unfold c_last
  split
  · next x j a r =>
    obtain ⟨v, q, rfl, ⟨x', rfl, hx⟩, hq1⟩ := g_sc hs
    obtain ⟨v, q, rfl, ⟨j', rfl, hj⟩, hq2⟩ := g_sc hq1
    obtain ⟨v, q, rfl, ha, hq⟩ := g_sc hq2
    cases (ha : v = .ref a)
    unfold e_last
    dsimp only
    split
    · next o eo =>
      rw [(hh.2.2.1 a o eo).1]
      split
      · next hc =>
        rw [if_pos ⟨hc.1, hc.2.1, g_at hj hc.2.2.1⟩, g_ix hj hc.2.2.2]
        exact p_go hl hq (g_sl hh eo (by omega) hx)
      · exact p_no _ _
    · exact p_no _ _
  · exact p_no _ _
theorem p_aast (hl : g_l s lv lv') (hs : g_s s st st') (hh : g_h s A h) : g_P s (c_aast pc lv st A) (e_aast pc lv' st' h) := by
  unfold c_aast
  split
  · next x j a r =>
    obtain ⟨v, q, rfl, hx, hq1⟩ := g_sc hs
    cases (hx : v = .ref x)
    obtain ⟨v, q, rfl, ⟨j', rfl, hj⟩, hq2⟩ := g_sc hq1
    obtain ⟨v, q, rfl, ha, hq⟩ := g_sc hq2
    cases (ha : v = .ref a)
    unfold e_aast
    dsimp only
    split
    · next o w eo ew =>
      rw [(hh.2.2.1 a o eo).1, (hh.2.2.1 x w ew).1]
      split
      · next hc =>
        rw [if_pos ⟨hc.1, hc.2.1, g_at hj hc.2.2.1, hc.2.2.2.2.1, hc.2.2.2.2.2⟩, g_ix hj hc.2.2.2.1]
        exact p_go hl hq (g_sr hh eo (by omega))
      · exact p_no _ _
    · exact p_no _ _
  · exact p_no _ _
theorem p_alen (hl : g_l s lv lv') (hs : g_s s st st') (hh : g_h s A h) : g_P s (c_alen pc lv st A) (e_alen pc lv' st' h) := by
  unfold c_alen
  split
  · next a r =>
    obtain ⟨v, q, rfl, ha, hq⟩ := g_sc hs
    cases (ha : v = .ref a)
    unfold e_alen
    dsimp only
    split
    · next o eo =>
      rw [(hh.2.2.1 a o eo).1]
      split
      · exact p_go hl ⟨⟨_, rfl, g_iE _⟩, hq⟩ hh
      · exact p_no _ _
    · exact p_no _ _
  · exact p_no _ _
theorem p_nn {n : AI} {x : Int32} (hx : g_i n x) (h1 : n.1 = n.2) (h2 : 0 ≤ n.1) (h3 : n.1 ≤ 1000000) : ¬ x < 0 ∧ x.toNatClampNeg ≤ 1000000 ∧ x.toNatClampNeg = n.1.toNat := by
  have e := g_ix hx h1
  refine ⟨fun q => ?_, by omega, e⟩
  have := Int32.lt_iff_toInt_lt.mp q
  have : (0 : Int32).toInt = 0 := by decide
  obtain ⟨k1, k2⟩ := hx
  omega
theorem p_newa (t : ArrayType) (hl : g_l s lv lv') (hs : g_s s st st') (hh : g_h s A h) : g_P s (c_newa t pc lv st A) (e_newa t pc lv' st' h) := by
  unfold c_newa
  split
  · next n r =>
    obtain ⟨v, q, rfl, ⟨x', rfl, hx⟩, hq⟩ := g_sc hs
    unfold e_newa
    dsimp only
    split
    · next hc =>
      obtain ⟨k1, k2, k3⟩ := p_nn hx hc.2.1 hc.2.2.1 hc.2.2.2
      rw [if_pos ⟨hc.1, k1, k2⟩, k3]
      refine p_go hl ⟨?_, hq⟩ (g_new _ _ _ hh)
      show Value.ref (16 + h_n h) = Value.ref (16 + A.1.1)
      rw [hh.1]
    · exact p_no _ _
  · exact p_no _ _
theorem p_new (i idx : Nat) (hl : g_l s lv lv') (hs : g_s s st st') (hh : g_h s A h) : g_P s (c_new i idx pc lv st A) (e_new i idx pc lv' st' h) := by
  unfold c_new e_new
  generalize m_cc i idx = o
  match o with
  | none => exact p_no _ _
  | some c =>
    by_cases hc : c < 10
    · dsimp only
      rw [if_pos hc, if_pos hc]
      show g_P s (b_go (pc + 3) lv (b_r (16 + A.1.1) :: st) (b_new A (c + 1) (m_nf c) (m_nf c))) (m_go (pc + 3) lv' (.ref (16 + h_n h) :: st') (h_new h (c + 1) (m_nf c) (m_nf c)))
      refine p_go hl ⟨?_, hs⟩ (g_new _ _ _ hh)
      show Value.ref (16 + h_n h) = Value.ref (16 + A.1.1)
      rw [hh.1]
    · dsimp only
      rw [if_neg hc]
      exact p_no _ _
theorem p_anew (i idx : Nat) (hl : g_l s lv lv') (hs : g_s s st st') (hh : g_h s A h) : g_P s (c_anew i idx pc lv st A) (e_anew i idx pc lv' st' h) := by
  unfold c_anew
  split
  · next n r c ec =>
    obtain ⟨v, q, rfl, ⟨x', rfl, hx⟩, hq⟩ := g_sc hs
    unfold e_anew
    rw [ec]
    dsimp only
    split
    · next hc =>
      obtain ⟨k1, k2, k3⟩ := p_nn hx hc.2.1 hc.2.2.1 hc.2.2.2
      rw [if_pos ⟨hc.1, k1, k2⟩, k3]
      refine p_go hl ⟨?_, hq⟩ (g_new _ _ _ hh)
      show Value.ref (16 + h_n h) = Value.ref (16 + A.1.1)
      rw [hh.1]
    · exact p_no _ _
  · exact p_no _ _
theorem p_gets (i idx : Nat) (hl : g_l s lv lv') (hs : g_s s st st') (hh : g_h s A h) : g_P s (c_gets i idx pc lv st A) (e_gets i idx pc lv' st' h) := by
  unfold c_gets e_gets
  generalize m_sf i idx = o
  match o with
  | none => exact p_no _ _
  | some 0 => exact p_no _ _
  | some 1 =>
    show g_P s (b_go (pc + 3) lv (.inl (1, 1) :: st) A) (m_go (pc + 3) lv' (.int 1 :: st') h)
    exact p_go hl ⟨⟨_, rfl, by decide, by decide⟩, hs⟩ hh
  | some 2 =>
    show g_P s (b_go (pc + 3) lv (b_r 1 :: st) A) (m_go (pc + 3) lv' (.ref 1 :: st') h)
    exact p_go hl ⟨rfl, hs⟩ hh
  | some 3 =>
    show g_P s (b_go (pc + 3) lv (b_r 15 :: st) A) (m_go (pc + 3) lv' (.ref 15 :: st') h)
    exact p_go hl ⟨rfl, hs⟩ hh
  | some (n + 4) => exact p_no _ _
theorem p_ldc (w i idx : Nat) (hl : g_l s lv lv') (hs : g_s s st st') (hh : g_h s A h) : g_P s (c_ldc w i idx pc lv st A) (e_ldc w i idx pc lv' st' h) := by
  unfold c_ldc e_ldc
  generalize m_ic i idx = o
  generalize m_sc i idx = o2
  match o with
  | some x =>
    show g_P s (b_go (pc + w) lv (b_i x :: st) A) (m_go (pc + w) lv' (.int x :: st') h)
    exact p_go hl ⟨⟨_, rfl, g_iE _⟩, hs⟩ hh
  | none =>
    by_cases hw : w = 2
    · dsimp only
      rw [if_pos hw, if_pos hw]
      match o2 with
      | some a =>
        show g_P s (b_go (pc + w) lv (b_r a :: st) A) (m_go (pc + w) lv' (.ref a :: st') h)
        exact p_go hl ⟨rfl, hs⟩ hh
      | none => exact p_no _ _
    · dsimp only
      rw [if_neg hw]
      exact p_no _ _
theorem p_sw (d lo hi : Int) (offs : Array Int) (hl : g_l s lv lv') (hs : g_s s st st') (hh : g_h s A h) : g_P s (c_sw d lo hi offs pc lv st A) (e_sw d lo hi offs pc lv' st' h) := by
  unfold c_sw
  split
  · next x r =>
    obtain ⟨v, q, rfl, ⟨x', rfl, hx⟩, hq⟩ := g_sc hs
    obtain ⟨k1, k2⟩ := hx
    unfold e_sw
    dsimp only
    by_cases hc : x.2 < lo ∨ hi < x.1
    · rw [if_pos hc, if_pos (by omega)]
      exact p_tg hl hq hh
    · rw [if_neg hc]
      by_cases hc2 : x.1 = x.2 ∧ lo ≤ x.1 ∧ x.1 ≤ hi
      · rw [if_pos hc2, if_neg (by omega), show x'.toInt = x.1 by omega]
        generalize offs[(x.1 - lo).toNat]? = o
        match o with
        | some o =>
          show g_P s (b_tg pc o lv r A) (m_tg pc o lv' q h)
          exact p_tg hl hq hh
        | none => exact p_no _ _
      · rw [if_neg hc2]
        exact p_no _ _
  · exact p_no _ _
end
