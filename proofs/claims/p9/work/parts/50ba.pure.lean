-- THE RUN OF A ROW OF ACTS, PURE
-- + without words about room, exact where it fits
theorem hM_addx {i pc pc' : Nat} {lv : List (Nat × Value)} {st : List Value} {h : MH} {Q : Option Value → MH → Prop} {x y : Int32} {zx zy : Int} (a : m_at i pc = some (.iadd, 1)) (hx : x.toInt = zx) (hy : y.toInt = zy) (hp : pc + 1 = pc') (g : ∀ (w : Int32) (z : Int), w.toInt = z → -2147483648 ≤ z → z ≤ 2147483647 → (-2147483648 ≤ zx + zy → zx + zy ≤ 2147483647 → z = zx + zy) → HJ i pc' lv (.int w :: st) h Q) : HJ i pc lv (.int y :: .int x :: st) h Q := hI_add a hp (g _ _ rfl (g_iT _).1 (g_iT _).2 (fun b0 b1 => by subst hx hy; exact i_add _ _ b0 b1))
theorem rs_lk {F F2 : Nat → Int} {V V2 : Nat → Nat → Int} {S : PSt} {u w r : Int} (I : rs_of F V S) (sh : p_sh (F 17) (V 22) (V 23)) (u0 : 0 ≤ u) (u1 : u < F 17) (ru : V 22 u.toNat = r) (r5 : r ≤ 5) (f17 : F2 17 = F 17 + 1) (f19 : F2 19 = F 19 + 1) (v20 : V2 20 = m_u (V 20) (F 17).toNat (V 20 u.toNat)) (v21 : V2 21 = m_u (V 21) (F 17).toNat (V 21 u.toNat)) (v22 : V2 22 = m_u (V 22) (F 17).toNat (r + 1)) (b1 : ∀ j, j < 6 * (F 17).toNat → V2 23 j = V 23 j) (b2 : ∀ p : Nat, (p : Int) < r → V2 23 (6 * (F 17).toNat + p) = V 23 (6 * u.toNat + p)) (b3 : V2 23 (6 * (F 17).toNat + r.toNat) = w) : rs_of F2 V2 (ps_lk S u w) := by
  obtain ⟨i1, i2, i3, i4⟩ := I
  have en : (F 17).toNat = ps_n S := by omega
  rw [en] at v20 v21 v22 b1 b2 b3
  obtain ⟨t1, t2, y1, y2, k1, c1⟩ := i4 u.toNat (by omega)
  have r0 : 0 ≤ r := by
    have := (sh u.toNat (by omega)).1
    omega
  obtain ⟨n1, n2, n3, n4, n5⟩ := ps_lkN (S := S) (u := u) (d := w)
  unfold rs_of
  rw [n1, n2, n3, n4, n5]
  refine ⟨by omega, by omega, ⟨by omega, by omega⟩, fun v hv => ?_⟩
  by_cases e : v = ps_n S
  · rw [e, v20, v21, v22, m_uE, m_uE, m_uE, m_uE, m_uE, m_uE]
    refine ⟨t1, t2, y1, y2, by rw [k1, ru], fun q hq => ?_⟩
    rw [ps_lkC (by omega)]
    by_cases eq : (q : Int) < r
    · rw [if_pos (by rw [k1, ru]; exact eq), b2 q eq]
      exact c1 q (by rw [ru]; exact eq)
    · rw [if_neg (by rw [k1, ru]; exact eq), show q = r.toNat by omega, b3]
  · obtain ⟨a1, a2, a3, a4, a5, a6⟩ := i4 v (by omega)
    rw [v20, v21, v22, m_uN _ _ _ _ e, m_uN _ _ _ _ e, m_uN _ _ _ _ e, m_uN _ _ _ _ e, m_uN _ _ _ _ e, m_uN _ _ _ _ e]
    refine ⟨a1, a2, a3, a4, a5, fun q hq => ?_⟩
    have := (sh v (by omega)).1
    rw [ps_lkB (by omega), b1 _ (by omega)]
    exact a6 q hq
