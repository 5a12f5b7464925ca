-- WHAT IS MADE, TYPED AT ONCE
def nx_rho (b : Nat) (Rs : List Nat) (ρ : Nat → Nat) (a : Nat) : Nat := if a < b then ρ a else Rs.getD (a - b) 0
def nx_ft (Rs : List Nat) (c : NC) (k : Nat) (ft : FT) : Bool := match ft with
  | .inl p => (decide (p.1 ≤ 0 ∧ 0 ≤ p.2) && !(m_lk c.2 (2000 + k)).isSome) || decide (p.1 ≤ -2147483648 ∧ 2147483647 ≤ p.2)
  | .inr (.inl _) => true
  | .inr (.inr q) => decide (c.1.1 < 20 ∨ 30 ≤ c.1.1) && (match m_lk c.2 k with
    | some j => !(Nat.beq q.1 0) && Nat.beq (Rs.getD j 0) q.1
    | none => !q.2)
def nx_cell (Rs : List Nat) (c : NC) (R : Nat) : Bool := match c_sp[R]? with
  | none => false
  | some rs => Nat.beq c.1.1 rs.1.1 && (Nat.ble rs.1.2.1 c.1.2 && (Nat.ble c.1.2 rs.1.2.2 && (Nat.ble c.1.2 1000 && (Nat.ble rs.2.2.2.length 1000 && (match rs.2.2.1 with
    | true => (List.range c.1.2).all (fun k => match rs.2.2.2[0]? with
      | some ft => nx_ft Rs c k ft
      | none => true)
    | false => (List.range rs.2.2.2.length).all (fun k => match rs.2.2.2[k]? with
      | some ft => nx_ft Rs c k ft
      | none => true))))))
def nx_all (D : List NC) (Rs : List Nat) : Bool := Nat.beq Rs.length D.length && (List.range D.length).all (fun j => match D[j]? with
  | some c => Nat.beq (Rs.getD j 0) 0 || nx_cell Rs c (Rs.getD j 0)
  | none => false)
def nx_W (Rs : List Nat) (W : List (Nat × Nat)) : Bool := Rs.all (fun R => Nat.beq R 0 || W.contains (R, 1002)) && W.contains (1000, 1002)
section
variable {ρ : Nat → Nat} {h0 h : MH} {D : List NC} {Z : Nat} {Rs : List Nat}
theorem nx_old {b a : Nat} (ha : a < b) : nx_rho b Rs ρ a = ρ a := if_pos ha
theorem nx_new {b j : Nat} : nx_rho b Rs ρ (b + j) = Rs.getD j 0 := by
  unfold nx_rho
  rw [if_neg (by omega), Nat.add_sub_cancel_left]
theorem sx_FQ {W : List (Nat × Nat)} (ht : TH c_sp ρ h0) (S : SX h0 h D Z) (hw : nx_W Rs W = true) : FQ ρ (nx_rho (16 + h_n h0) Rs ρ) W h0 h := by
  unfold nx_W at hw
  rw [Bool.and_eq_true] at hw
  refine ⟨⟨by have := S.1.1; omega, fun z => absurd (List.contains_iff_mem.mp hw.2) z⟩, fun a ha => nx_old (ht.2 a ha).1, fun a a0 a1 => ?_, fun a ha => ⟨(S.2.1 a ha).1, fun k _ => (S.2.1 a ha).2 k⟩⟩
  by_cases hl : a < 16 + h_n h0
  · rw [nx_old hl] at a1
    exact absurd a0 a1
  · obtain ⟨j, rfl⟩ : ∃ j, a = 16 + h_n h0 + j := ⟨a - (16 + h_n h0), by omega⟩
    rw [nx_new] at a1 ⊢
    refine ⟨by omega, ?_⟩
    have hm : Rs.getD j 0 ∈ Rs := by
      rw [List.getD_eq_getElem?_getD] at a1 ⊢
      cases hq : Rs[j]? with
      | none => rw [hq] at a1; exact absurd rfl a1
      | some x => exact List.mem_of_getElem? hq
    have := List.all_eq_true.mp hw.1 _ hm
    rw [Bool.or_eq_true] at this
    rcases this with z | z
    · exact absurd (Nat.eq_of_beq_eq_true z) a1
    · exact List.contains_iff_mem.mp z
theorem nx_ftS {j k : Nat} {c : NC} {ft : FT} (hj : NCok (16 + h_n h0) h (16 + h_n h0 + j) c) (hk : k < 1000) (e : nx_ft Rs c k ft = true) : t_ft (nx_rho (16 + h_n h0) Rs ρ) ft h (16 + h_n h0 + j) k := by
  obtain ⟨c1, c2⟩ := hj
  obtain ⟨d1, d2⟩ := c2 k hk
  match ft, e with
  | .inl p, e =>
    show p.1 ≤ (h_i h _ k).toInt ∧ (h_i h _ k).toInt ≤ p.2
    have e : ((decide (p.1 ≤ 0 ∧ 0 ≤ p.2) && !(m_lk c.2 (2000 + k)).isSome) || decide (p.1 ≤ -2147483648 ∧ 2147483647 ≤ p.2)) = true := e
    rw [Bool.or_eq_true, Bool.and_eq_true] at e
    rcases e with ⟨e1, e2⟩ | e1
    · rcases d1 with z | z
      · rw [z] at e2
        cases e2
      · rw [z]
        exact of_decide_eq_true e1
    · have e1 := of_decide_eq_true e1
      have := g_iT (h_i h (16 + h_n h0 + j) k)
      have t1 : -2147483648 ≤ (h_i h (16 + h_n h0 + j) k).toInt ∧ (h_i h (16 + h_n h0 + j) k).toInt ≤ 2147483647 := this
      omega
  | .inr (.inl _), _ => trivial
  | .inr (.inr q), e =>
    have e : (decide (c.1.1 < 20 ∨ 30 ≤ c.1.1) && (match m_lk c.2 k with
      | some j => !(Nat.beq q.1 0) && Nat.beq (Rs.getD j 0) q.1
      | none => !q.2)) = true := e
    rw [Bool.and_eq_true] at e
    obtain ⟨e1, e2⟩ := e
    show t_rf _ q.1 q.2 (h_r h _ k)
    rw [d2 (of_decide_eq_true e1)]
    unfold nc_r
    split at e2
    · next j2 hj2 =>
      rw [hj2]
      rw [Bool.and_eq_true] at e2
      have e3 := Nat.eq_of_beq_eq_true e2.2
      refine Or.inr ⟨by show 16 + h_n h0 + j2 ≠ 0; omega, fun z => ?_, ?_⟩
      · rw [z] at e2
        have := e2.1
        cases this
      · show nx_rho _ Rs ρ (16 + h_n h0 + j2) = q.1
        rw [nx_new]
        exact e3
    · next hj2 =>
      rw [hj2]
      refine Or.inl ⟨rfl, ?_⟩
      cases hq : q.2 with
      | false => rfl
      | true => rw [hq] at e2; cases e2
theorem sx_TH (ht : TH c_sp ρ h0) (S : SX h0 h D Z) (hx : nx_all D Rs = true) : TH c_sp (nx_rho (16 + h_n h0) Rs ρ) h := by
  have fq : FQ ρ (nx_rho (16 + h_n h0) Rs ρ) ((1000, 1002) :: Rs.map (fun R => (R, 1002))) h0 h := sx_FQ ht S (by
    unfold nx_W
    rw [Bool.and_eq_true]
    refine ⟨List.all_eq_true.mpr (fun R hR => ?_), List.contains_iff_mem.mpr List.mem_cons_self⟩
    rw [Bool.or_eq_true]
    exact Or.inr (List.contains_iff_mem.mpr (List.mem_cons_of_mem _ (List.mem_map.mpr ⟨R, hR, rfl⟩))))
  unfold nx_all at hx
  rw [Bool.and_eq_true] at hx
  have hlen := Nat.eq_of_beq_eq_true hx.1
  refine ⟨by rw [nx_old (by omega)]; exact ht.1, fun a ha => ?_⟩
  by_cases hl : a < 16 + h_n h0
  · rw [nx_old hl] at ha ⊢
    obtain ⟨-, rs2, s2, c1, c2, c3, c4⟩ := ht.2 a ha
    obtain ⟨b1, b2⟩ := S.2.1 a hl
    refine ⟨by have := S.1.1; omega, rs2, s2, by rw [b1]; exact c1, by rw [b1]; exact c2, c3, fun k ft hk hb => ?_⟩
    have := c4 k ft hk (fun z => by have := hb z; rw [b1] at this; exact this)
    match ft, this with
    | .inl p, this =>
      show p.1 ≤ (h_i h a k).toInt ∧ (h_i h a k).toInt ≤ p.2
      rw [(b2 k).1]
      exact this
    | .inr (.inl _), _ => trivial
    | .inr (.inr q), this =>
      show t_rf _ q.1 q.2 (h_r h a k)
      rw [(b2 k).2.2]
      exact x_rf fq this
  · obtain ⟨j, rfl⟩ : ∃ j, a = 16 + h_n h0 + j := ⟨a - (16 + h_n h0), by omega⟩
    rw [nx_new] at ha ⊢
    have hj : j < D.length := by
      rw [List.getD_eq_getElem?_getD] at ha
      cases hq : Rs[j]? with
      | none => rw [hq] at ha; exact absurd rfl ha
      | some x =>
        have := (List.getElem?_eq_some_iff.mp hq).1
        omega
    have hc := List.all_eq_true.mp hx.2 j (List.mem_range.mpr hj)
    split at hc
    · next c hD =>
      rw [Bool.or_eq_true] at hc
      rcases hc with z | hc
      · exact absurd (Nat.eq_of_beq_eq_true z) ha
      · unfold nx_cell at hc
        split at hc
        · cases hc
        · next rs hs =>
          rw [Bool.and_eq_true, Bool.and_eq_true, Bool.and_eq_true, Bool.and_eq_true, Bool.and_eq_true] at hc
          obtain ⟨k1, k2, k3, k4, k5, k6⟩ := hc
          have n1 := S.2.2 j c hD
          have k1 := Nat.eq_of_beq_eq_true k1
          have k2 := Nat.le_of_ble_eq_true k2
          have k3 := Nat.le_of_ble_eq_true k3
          have k4 := Nat.le_of_ble_eq_true k4
          have k5 := Nat.le_of_ble_eq_true k5
          refine ⟨by have := S.1.1; omega, rs, hs, by rw [n1.1]; exact k1, by rw [n1.1]; exact ⟨k2, k3⟩, fun _ => by omega, fun k ft hk hb => ?_⟩
          unfold r_ft at hk
          split at k6
          · next ht2 =>
            rw [ht2] at hk
            have hk : rs.2.2.2[0]? = some ft := hk
            have hb := hb ht2
            rw [n1.1] at hb
            have := List.all_eq_true.mp k6 k (List.mem_range.mpr hb)
            rw [hk] at this
            exact nx_ftS n1 (by omega) this
          · next ht2 =>
            rw [ht2] at hk
            have hk : rs.2.2.2[k]? = some ft := hk
            have hb := (List.getElem?_eq_some_iff.mp hk).1
            have := List.all_eq_true.mp k6 k (List.mem_range.mpr hb)
            rw [hk] at this
            exact nx_ftS n1 (by omega) this
    · cases hc
end
-- a table of rows
theorem nx_gk (h : MH) (n k a : Nat) : h_k (h_grid h n k) a = if a = 16 + h.1.1 then (33, n) else if 16 + h.1.1 < a ∧ a ≤ 16 + h.1.1 + n then (20, k) else h_k h a := rfl
theorem nx_gi (h : MH) (n k a j : Nat) : h_i (h_grid h n k) a j = if 16 + h.1.1 ≤ a ∧ a ≤ 16 + h.1.1 + n then 0 else h_i h a j := by
  show (if 16 + h.1.1 ≤ a ∧ a ≤ 16 + h.1.1 + n then (fun _ => (0 : Int32)) else h.2.2.1 a) j = _
  split <;> rfl
theorem nx_gr (h : MH) (n k a j : Nat) : h_r (h_grid h n k) a j = if a = 16 + h.1.1 then (if j < n then 16 + h.1.1 + 1 + j else 0) else h_r h a j := by
  show m_u h.2.2.2.2 (16 + h.1.1) (fun i => if i < n then 16 + h.1.1 + 1 + i else 0) a j = _
  by_cases e : a = 16 + h.1.1
  · rw [e, m_uE, if_pos rfl]
  · rw [m_uN _ _ _ _ e, if_neg e]
    rfl
def nx_gl (d n : Nat) : List (Nat × Nat) := (List.range n).map (fun i => (i, d + 1 + i))
theorem nx_glL {d : Nat} : ∀ {n j : Nat}, j < 1000 → m_lk (nx_gl d n) j = if j < n then some (d + 1 + j) else none
  | 0, j, _ => by
    rw [if_neg (by omega)]
    rfl
  | n + 1, j, hj => by
    have e : nx_gl d (n + 1) = nx_gl d n ++ [(n, d + 1 + n)] := by
      unfold nx_gl
      rw [List.range_succ, List.map_append]
      rfl
    rw [e]
    have ih := nx_glL (d := d) (n := n) (j := j) hj
    unfold m_lk at ih ⊢
    rw [List.find?_append]
    by_cases h1 : j < n
    · rw [if_pos h1] at ih
      rw [if_pos (by omega)]
      cases hq : (nx_gl d n).find? (fun e => e.1 == j) with
      | none => rw [hq] at ih; cases ih
      | some x => rw [hq] at ih; exact ih
    · rw [if_neg h1] at ih
      cases hq : (nx_gl d n).find? (fun e => e.1 == j) with
      | some x => rw [hq] at ih; cases ih
      | none =>
        by_cases h2 : j = n
        · subst h2
          rw [if_pos (by omega)]
          simp
        · rw [if_neg (by omega)]
          have : ¬ n = j := fun z => h2 z.symm
          simp [this]
theorem nx_gl2 {d n k : Nat} (hk : n ≤ 1000) : m_lk (nx_gl d n) (2000 + k) = none := by
  unfold m_lk
  rw [List.find?_eq_none.mpr]
  · rfl
  · intro x hx
    unfold nx_gl at hx
    obtain ⟨i, hi, rfl⟩ := List.mem_map.mp hx
    have := List.mem_range.mp hi
    simp
    omega
theorem sx_grid {h0 h : MH} {D : List NC} {Z n k : Nat} (S : SX h0 h D Z) (hn : n ≤ 1000) : SX h0 (h_grid h n k) (D ++ (((33, n), nx_gl D.length n) :: List.replicate n ((20, k), []))) (Z + (n + n * k)) := by
  obtain ⟨⟨a1, a2⟩, a3, a4⟩ := S
  have en : h.1.1 = h_n h0 + D.length := a1
  refine ⟨⟨?_, ?_⟩, fun a ha => ?_, fun j c e => ?_⟩
  · rw [List.length_append, List.length_cons, List.length_replicate]
    show h.1.1 + (1 + n) = _
    omega
  · show h_z h + (n + n * k) = _
    omega
  · obtain ⟨b1, b2⟩ := a3 a ha
    refine ⟨by rw [nx_gk, if_neg (by omega), if_neg (by omega)]; exact b1, fun q => ⟨by rw [nx_gi, if_neg (by omega)]; exact (b2 q).1, (b2 q).2.1, by rw [nx_gr, if_neg (by omega)]; exact (b2 q).2.2⟩⟩
  · by_cases hj : j < D.length
    · rw [List.getElem?_append_left hj] at e
      obtain ⟨b1, b2⟩ := a4 j c e
      exact ⟨by rw [nx_gk, if_neg (by omega), if_neg (by omega)]; exact b1, fun q hq => ⟨(b2 q hq).1.imp id (fun z => by rw [nx_gi, if_neg (by omega)]; exact z), fun z => by rw [nx_gr, if_neg (by omega)]; exact (b2 q hq).2 z⟩⟩
    · rw [List.getElem?_append_right (by omega)] at e
      by_cases h1 : j = D.length
      · subst h1
        rw [Nat.sub_self] at e
        cases (Option.some.inj e)
        refine ⟨by rw [nx_gk, if_pos (by omega)], fun q hq => ⟨Or.inr (by rw [nx_gi, if_pos (by omega)]), fun _ => ?_⟩⟩
        unfold nc_r
        dsimp only
        rw [nx_gr, if_pos (by omega), nx_glL hq]
        by_cases h2 : q < n
        · rw [if_pos h2, if_pos h2]
          dsimp only
          omega
        · rw [if_neg h2, if_neg h2]
      · obtain ⟨p, rfl⟩ : ∃ p, j = D.length + (p + 1) := ⟨j - D.length - 1, by omega⟩
        rw [Nat.add_sub_cancel_left, List.getElem?_cons_succ] at e
        have hp := (List.getElem?_eq_some_iff.mp e).1
        rw [List.length_replicate] at hp
        rw [List.getElem?_replicate, if_pos hp] at e
        cases (Option.some.inj e)
        refine ⟨by rw [nx_gk, if_neg (by omega), if_pos (by omega)], fun q hq => ⟨Or.inr (by rw [nx_gi, if_pos (by omega)]), fun z => ?_⟩⟩
        have z : (20 : Nat) < 20 ∨ 30 ≤ (20 : Nat) := z
        omega
theorem hS_grid {i pc pc' : Nat} {lv : List (Nat × Value)} {st : List Value} {h0 h : MH} {D : List NC} {Z : Nat} {Q : Option Value → MH → Prop} {idx d : Nat} {x y : Int32} {n k j : Nat} (S : SX h0 h D Z) (a : m_at i pc = some (.multianewarray idx d, 4)) (hd : d = 2) (hc : m_cc i idx = some 33) (hx : x.toInt = (n : Int)) (hy : y.toInt = (k : Int)) (hn : n ≤ 1000) (hk : k ≤ 1000) (hj : D.length = j) (hp : pc + 4 = pc') (g : ∀ h', SX h0 h' (D ++ (((33, n), nx_gl D.length n) :: List.replicate n ((20, k), []))) (Z + (n + n * k)) → HJ i pc' lv (.ref (16 + h_n h0 + j) :: st) h' Q) : HJ i pc lv (.int y :: .int x :: st) h Q := by
  have e1 : 16 + h_n h0 + j = 16 + h_n h := by have := S.1.1; omega
  have g := g _ (sx_grid S hn)
  rw [e1] at g
  subst hp hd
  refine HJ.ex a (Or.inl rfl) ?_ g
  show (if 2 = 2 then e_grid i idx pc lv (.int y :: .int x :: st) h else none) = _
  rw [if_pos rfl]
  unfold e_grid
  rw [hc]
  have h00 : (0 : Int32).toInt = 0 := rfl
  have e3 : x.toNatClampNeg = n := by show x.toInt.toNat = n; omega
  have e4 : y.toNatClampNeg = k := by show y.toInt.toNat = k; omega
  show (if ¬ x < 0 ∧ ¬ y < 0 ∧ x.toNatClampNeg ≤ 1000000 ∧ y.toNatClampNeg ≤ 1000000 then _ else _) = _
  rw [if_pos ⟨fun z => by have := Int32.lt_iff_toInt_lt.mp z; omega, fun z => by have := Int32.lt_iff_toInt_lt.mp z; omega, by omega, by omega⟩, e3, e4]
  rfl
-- rows of references
theorem hS_anew {i pc pc' : Nat} {lv : List (Nat × Value)} {st : List Value} {h0 h : MH} {D : List NC} {Z : Nat} {Q : Option Value → MH → Prop} {idx c n j : Nat} {x : Int32} (S : SX h0 h D Z) (a : m_at i pc = some (.anewarray idx, 3)) (hc : m_cc i idx = some c) (hk : m_ek c ≠ 0) (hx : x.toInt = (n : Int)) (hn : n ≤ 1000000) (hj : D.length = j) (hp : pc + 3 = pc') (g : ∀ h', SX h0 h' (D ++ [((m_ek c, n), [])]) (Z + n) → HJ i pc' lv (.ref (16 + h_n h0 + j) :: st) h' Q) : HJ i pc lv (.int x :: st) h Q := by
  have e1 : 16 + h_n h0 + j = 16 + h_n h := by have := S.1.1; omega
  have g := g _ (sx_new S)
  rw [e1] at g
  subst hp
  refine HJ.ex a (Or.inl rfl) ?_ g
  show e_anew i idx pc lv (.int x :: st) h = _
  unfold e_anew
  rw [hc]
  have h00 : (0 : Int32).toInt = 0 := rfl
  have e3 : x.toNatClampNeg = n := by show x.toInt.toNat = n; omega
  show (if m_ek c ≠ 0 ∧ ¬ x < 0 ∧ x.toNatClampNeg ≤ 1000000 then _ else _) = _
  rw [if_pos ⟨hk, fun z => by have := Int32.lt_iff_toInt_lt.mp z; omega, by omega⟩, e3]
  rfl
theorem hS_aast {i pc pc' : Nat} {lv : List (Nat × Value)} {st : List Value} {h0 h : MH} {D : List NC} {Z : Nat} {Q : Option Value → MH → Prop} {n j q : Nat} {x : Int32} {e e2 : NC} (S : SX h0 h D Z) (a : m_at i pc = some (.aastore, 1)) (hx : x.toInt = (n : Int)) (hD : D[j]? = some e) (hD2 : D[q]? = some e2) (hk : 30 ≤ e.1.1 ∧ e.1.1 < 33 ∧ n < e.1.2 ∧ n < 1000) (he : e2.1.1 = m_el e.1.1) (hp : pc + 1 = pc') (g : ∀ h', SX h0 h' (D.set j (e.1, (n, q) :: e.2)) Z → HJ i pc' lv st h' Q) : HJ i pc lv (.ref (16 + h_n h0 + q) :: .int x :: .ref (16 + h_n h0 + j) :: st) h Q := by
  have g := g _ (sx_pr (k := n) S hD hk.2.2.2)
  have k1 := (S.2.2 j e hD).1
  have k2 := (S.2.2 q e2 hD2).1
  subst hp
  refine HJ.ex a (Or.inl rfl) ?_ g
  show (if 16 ≤ 16 + h_n h0 + j ∧ (30 ≤ (h_k h (16 + h_n h0 + j)).1 ∧ (h_k h (16 + h_n h0 + j)).1 < 33) ∧ m_in x (h_k h (16 + h_n h0 + j)).2 = true ∧ 16 ≤ 16 + h_n h0 + q ∧ (h_k h (16 + h_n h0 + q)).1 = m_el (h_k h (16 + h_n h0 + j)).1 then _ else none) = _
  have e3 : x.toNatClampNeg = n := by show x.toInt.toNat = n; omega
  rw [k1, k2, if_pos ⟨by omega, ⟨hk.1, hk.2.1⟩, m_inZ (by omega) (by omega), by omega, he⟩, e3]
  rfl
