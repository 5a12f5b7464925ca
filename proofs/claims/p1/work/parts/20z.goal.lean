-- THE GOAL of the small machine
theorem b_k35 : b_two (35, 35) 60000 2 b_l5 [b_t] = true := by
  unfold b_two b_l5
  rw [List.all_cons, List.all_cons, List.all_cons, List.all_cons, List.all_cons, List.all_nil, List.all_cons, List.all_nil, List.all_cons, List.all_nil, List.all_cons, List.all_nil, List.all_cons, List.all_nil, List.all_cons, List.all_nil, b_k35_0, b_k35_1, b_k35_2, b_k35_3, b_k35_4]
  rfl
theorem b_sel (xs : Nat → Int32) (c : Int) (h : (xs 0 &&& 63).toInt = c) : g_i (c, c) (xs 0 &&& 63) := ⟨by rw [h]; exact Int.le_refl _, by rw [h]; exact Int.le_refl _⟩
theorem m_goal (L : Nat) (xs : Nat → Int32) (hL : L ≤ 7) : b_goal L xs := by
  obtain ⟨g0, g1⟩ := g_63 (xs 0)
  have g0 : (0 : Int) ≤ (xs 0 &&& 63).toInt := g0
  have g1 : (xs 0 &&& 63).toInt ≤ (63 : Int) := g1
  by_cases h7 : L = 7
  · rw [h7]
    by_cases c0 : (xs 0 &&& 63).toInt = 0
    · exact b_twoS b_k0 b_v0 b_v0 xs (b_sel xs 0 c0)
    by_cases c1 : (xs 0 &&& 63).toInt = 1
    · exact b_twoS b_k1 b_v2 b_v0 xs (b_sel xs 1 c1)
    by_cases c2 : (xs 0 &&& 63).toInt = 2
    · exact b_twoS b_k2 b_v3 b_v0 xs (b_sel xs 2 c2)
    by_cases c3 : (xs 0 &&& 63).toInt = 3
    · exact b_twoS b_k3 b_v4 b_v0 xs (b_sel xs 3 c3)
    by_cases c4 : (xs 0 &&& 63).toInt = 4
    · exact b_twoS b_k4 b_v1 b_v0 xs (b_sel xs 4 c4)
    by_cases c5 : (xs 0 &&& 63).toInt = 5
    · exact b_twoS b_k5 b_v1 b_v0 xs (b_sel xs 5 c5)
    by_cases c6 : (xs 0 &&& 63).toInt = 6
    · exact b_twoS b_k6 b_v1 b_v0 xs (b_sel xs 6 c6)
    by_cases c7 : (xs 0 &&& 63).toInt = 7
    · exact b_twoS b_k7 b_v1 b_v2 xs (b_sel xs 7 c7)
    by_cases c8 : (xs 0 &&& 63).toInt = 8
    · exact b_twoS b_k8 b_v1 b_v0 xs (b_sel xs 8 c8)
    by_cases c9 : (xs 0 &&& 63).toInt = 9
    · exact b_twoS b_k9 b_v1 b_v2 xs (b_sel xs 9 c9)
    by_cases c10 : (xs 0 &&& 63).toInt = 10
    · exact b_twoS b_k10 b_v1 b_v0 xs (b_sel xs 10 c10)
    by_cases c11 : (xs 0 &&& 63).toInt = 11
    · exact b_twoS b_k11 b_v1 b_v0 xs (b_sel xs 11 c11)
    by_cases c12 : (xs 0 &&& 63).toInt = 12
    · exact b_twoS b_k12 b_v1 b_v0 xs (b_sel xs 12 c12)
    by_cases c13 : (xs 0 &&& 63).toInt = 13
    · exact b_twoS b_k13 b_v1 b_v0 xs (b_sel xs 13 c13)
    by_cases c14 : (xs 0 &&& 63).toInt = 14
    · exact b_twoS b_k14 b_v1 b_v2 xs (b_sel xs 14 c14)
    by_cases c15 : (xs 0 &&& 63).toInt = 15
    · exact b_twoS b_k15 b_v1 b_v0 xs (b_sel xs 15 c15)
    by_cases c16 : (xs 0 &&& 63).toInt = 16
    · exact b_twoS b_k16 b_v1 b_v2 xs (b_sel xs 16 c16)
    by_cases c17 : (xs 0 &&& 63).toInt = 17
    · exact b_twoS b_k17 b_v1 b_v0 xs (b_sel xs 17 c17)
    by_cases c18 : (xs 0 &&& 63).toInt = 18
    · exact b_twoS b_k18 b_v1 b_v0 xs (b_sel xs 18 c18)
    by_cases c19 : (xs 0 &&& 63).toInt = 19
    · exact b_twoS b_k19 b_v1 b_v0 xs (b_sel xs 19 c19)
    by_cases c20 : (xs 0 &&& 63).toInt = 20
    · exact b_twoS b_k20 b_v1 b_v2 xs (b_sel xs 20 c20)
    by_cases c21 : (xs 0 &&& 63).toInt = 21
    · exact b_twoS b_k21 b_v1 b_v2 xs (b_sel xs 21 c21)
    by_cases c22 : (xs 0 &&& 63).toInt = 22
    · exact b_twoS b_k22 b_v1 b_v0 xs (b_sel xs 22 c22)
    by_cases c23 : (xs 0 &&& 63).toInt = 23
    · exact b_twoS b_k23 b_v1 b_v2 xs (b_sel xs 23 c23)
    by_cases c24 : (xs 0 &&& 63).toInt = 24
    · exact b_twoS b_k24 b_v1 b_v0 xs (b_sel xs 24 c24)
    by_cases c25 : (xs 0 &&& 63).toInt = 25
    · exact b_twoS b_k25 b_v1 b_v2 xs (b_sel xs 25 c25)
    by_cases c26 : (xs 0 &&& 63).toInt = 26
    · exact b_twoS b_k26 b_v1 b_v0 xs (b_sel xs 26 c26)
    by_cases c27 : (xs 0 &&& 63).toInt = 27
    · exact b_twoS b_k27 b_v1 b_v0 xs (b_sel xs 27 c27)
    by_cases c28 : (xs 0 &&& 63).toInt = 28
    · exact b_twoS b_k28 b_v1 b_v0 xs (b_sel xs 28 c28)
    by_cases c29 : (xs 0 &&& 63).toInt = 29
    · exact b_twoS b_k29 b_v1 b_v2 xs (b_sel xs 29 c29)
    by_cases c30 : (xs 0 &&& 63).toInt = 30
    · exact b_twoS b_k30 b_v1 b_v2 xs (b_sel xs 30 c30)
    by_cases c31 : (xs 0 &&& 63).toInt = 31
    · exact b_twoS b_k31 b_v1 b_v2 xs (b_sel xs 31 c31)
    by_cases c32 : (xs 0 &&& 63).toInt = 32
    · exact b_twoS b_k32 b_v1 b_v0 xs (b_sel xs 32 c32)
    by_cases c33 : (xs 0 &&& 63).toInt = 33
    · exact b_twoS b_k33 b_v1 b_v0 xs (b_sel xs 33 c33)
    by_cases c34 : (xs 0 &&& 63).toInt = 34
    · exact b_twoS b_k34 b_v0 b_v0 xs (b_sel xs 34 c34)
    by_cases c35 : (xs 0 &&& 63).toInt = 35
    · exact b_twoS b_k35 b_v5 b_v0 xs (b_sel xs 35 c35)
    by_cases c36 : (xs 0 &&& 63).toInt = 36
    · exact b_twoS b_k36 b_v5 b_v0 xs (b_sel xs 36 c36)
    exact b_twoS b_k37 b_v0 b_v0 xs ⟨show (37 : Int) ≤ _ by omega, g1⟩
  · have hm : L ∈ [0, 1, 2, 3, 4, 5, 6] := by
      simp only [List.mem_cons, List.not_mem_nil, or_false]
      omega
    exact b_okS (0, 63) 3000 L [] (List.all_eq_true.mp b_short L hm) xs (fun j hj => absurd hj (Nat.not_lt_zero _)) ⟨g0, g1⟩
theorem whole_start {p : Program} {e : Env} {s : State} {m : MethodId} {below : List Frame} {meth : Method} {c : Code} (l : Launch) (hflags : l.flags = flags0) {b L : Nat} {xs : Nat → Int32} (hL : L ≤ 7) (C0 : lw_At p s m meth c b L xs) : W p l e room_1 s m #[Value.ref b] below meth c s.heap [] 0 0 (lw_Z below #[Value.ref b] s) (entryFrame m ([Value.ref b] : List Value).toArray 4) := m_law l hL C0 (m_goal L xs hL)
