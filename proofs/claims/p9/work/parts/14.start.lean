-- THE START: what the Statement gives of it, as the small machine has it
def m_tm (k : Nat) : Term := .string (m_strs.getD k ("", 0, "")).1 (m_strs.getD k ("", 0, "")).2.1
def m_sln : List Nat := [3, 3, 4, 4, 5, 3]
def m_sby : List (List Int32) := [[110, 101, 119], [112, 117, 116], [109, 101, 108, 100], [108, 101, 115, 115], [108, 111, 119, 101, 114], [99, 117, 116]]
def m_lim : List Int32 := [-1, -1, -1, 40, 99, -1, 40, 40, -1, 40, -1, -1, 40, 39, 99, 40, 99, -1]
def m_fl0 : List Cond := flatC (Jvm.Cond.and given_1 narrow_1)
theorem m_g1 : ∀ k, k < 6 → Cond.exactly (m_tm k) "java/lang/String" ∈ m_fl0 := by decide +kernel
theorem m_g2 : ∀ k, k < 6 → Cond.eq (.field (m_tm k) "java/lang/String" "coder" "B") (.int 0) ∈ m_fl0 := by decide +kernel
theorem m_g3 : ∀ k, k < 6 → Cond.arrayOf (.field (m_tm k) "java/lang/String" "value" "[B") .byte ∈ m_fl0 := by decide +kernel
theorem m_g4 : ∀ k, k < 6 → Cond.eq (.length (.field (m_tm k) "java/lang/String" "value" "[B")) (.int (Int32.ofNat (m_sln.getD k 0))) ∈ m_fl0 := by decide +kernel
theorem m_g5 : ∀ k, k < 6 → ∀ j, j < m_sln.getD k 0 → Cond.eq (.elem (.field (m_tm k) "java/lang/String" "value" "[B") (.int (Int32.ofNat j))) (.int ((m_sby.getD k []).getD j 0)) ∈ m_fl0 := by decide +kernel
theorem m_g6 : ∀ k, k < 6 → ∀ j, j < 6 → k ≠ j → Cond.not (Cond.eq (m_tm k) (m_tm j)) ∈ m_fl0 ∨ Cond.not (Cond.eq (m_tm j) (m_tm k)) ∈ m_fl0 := by decide +kernel
theorem m_g7 : Cond.arrayOf (.static "PastHeaps" "LIMITS" "[I") .int ∈ m_fl0 := by decide +kernel
theorem m_g8 : Cond.eq (.length (.static "PastHeaps" "LIMITS" "[I")) (.int 18) ∈ m_fl0 := by decide +kernel
theorem m_g9 : ∀ j, j < 18 → Cond.eq (.elem (.static "PastHeaps" "LIMITS" "[I") (.int (Int32.ofNat j))) (.int (m_lim.getD j 0)) ∈ m_fl0 := by decide +kernel
theorem m_g10 : Cond.eq (.static "java/lang/String" "COMPACT_STRINGS" "Z") (.int 1) ∈ m_fl0 := by decide +kernel
theorem m_g11 : Cond.isRef (.static "jdk/internal/util/Preconditions" "SIOOBE_FORMATTER" "Ljava/util/function/BiFunction;") ∈ m_fl0 := by decide +kernel
theorem m_wst : ∀ w ∈ [Cond.laysStatic "java/lang/String" "COMPACT_STRINGS" "Z", .laysStatic "PastHeaps" "LIMITS" "[I", .laysStatic "jdk/internal/util/Preconditions" "SIOOBE_FORMATTER" "Ljava/util/function/BiFunction;", .initialized "java/lang/String", .initialized "PastHeaps", .initialized "jdk/internal/util/Preconditions"], w ∈ lw_tbl := m_memL [384, 449, 400, 113, 105, 115] (by decide +kernel)
theorem m_wsr : ∀ w ∈ m_strs.map (fun q => Cond.stringRef q.1 q.2.1 q.2.2), w ∈ lw_tbl := m_memL [365, 366, 367, 368, 369, 370] (by decide +kernel)
-- the small machine's heap at the start: what stands still alone
def m_kd0 (L a : Nat) : Nat × Nat := if a = 1 then (20, 18) else if 2 ≤ a ∧ a < 8 then (40, 0) else if 8 ≤ a ∧ a < 14 then (21, m_sln.getD (a - 8) 0) else if a = 14 then (20, L) else (0, 0)
def m_hi0 (xs : Nat → Int32) (a j : Nat) : Int32 := if a = 1 then m_lim.getD j 0 else if 8 ≤ a ∧ a < 14 then (m_sby.getD (a - 8) []).getD j 0 else if a = 14 then xs j else 0
def m_hr0 (a k : Nat) : Nat := if 2 ≤ a ∧ a < 8 ∧ k = 0 then a + 6 else 0
def m_h0 (L : Nat) (xs : Nat → Int32) : MH := ((0, 0), m_kd0 L, m_hi0 xs, fun _ _ => 0, m_hr0)
theorem m_arrc {args : Array Value} {s : State} {ty : FieldType} (h : (Cond.arrayClass ty).before args s = true) : ∃ cA : ClassId, s.vm.findClass ("[" ++ ty.toString) = some cA ∧ ArrOfT s cA ty := by
  obtain ⟨cA, kA, comp, h1, h2, h3⟩ := Cond.arrayClass_spec h
  exact ⟨cA, h1, fun n z => ⟨(fun k h => by cases h), kA, h2, comp, h3⟩⟩
theorem m_arro {s : State} {C9 : String} (h : va_AO C9 s) : ∃ cA : ClassId, ArrOfT s cA (.object C9) ∧ va_RA s cA (.object C9) := by
  obtain ⟨comp, cA, kA, h1, -, h3, h4, h5⟩ := Cond.arrayOver_spec h
  exact ⟨cA, fun n z => ⟨(fun k h => by cases h), kA, h3, comp, h4⟩, kA, comp, h3, h4, h1, h5⟩
theorem m_arra {s : State} {ty : FieldType} (h : (Cond.arrayOver (.array ty)).before #[] s = true) : ∃ cA : ClassId, ArrOfT s cA (.array ty) ∧ va_RA s cA (.array ty) := by
  obtain ⟨comp, cA, kA, -, -, h3, h4, h5⟩ := arrayOverA_spec h
  exact ⟨cA, fun n z => ⟨(fun k h => by cases h), kA, h3, comp, h4⟩, h5⟩
set_option maxHeartbeats 1000000 in
set_option maxRecDepth 10000 in
-- the law, from its entry, by a run of the small machine
theorem m_law {p : Program} {e : Env} {s : State} {m : MethodId} {below : List Frame} {meth : Method} {c : Code} (l : Launch) {b L : Nat} {xs : Nat → Int32} (hL : L ≤ 448) (C0 : lw_At p s m meth c b L xs) (hrun : ∃ (n : Nat) (h' : MH), m_rn n 0 0 [(0, .ref 14)] [] (m_h0 L xs) = some (some (.int 1), h') ∧ h_n h' ≤ 600000 ∧ h_z h' ≤ 7302250) : W p l e room_1 s m #[Value.ref b] below meth c s.heap [] 0 0 (lw_Z below #[Value.ref b] s) (entryFrame m ([Value.ref b] : List Value).toArray 4) := by
  obtain ⟨hx, hb, hr, hml, hown, hts, hX, hbl, hlocks, hgv⟩ := id C0
  obtain ⟨n, h', hrun, hn', hz'⟩ := hrun
  have hA : ∀ a : Nat, a < s.heap.size → ¬ (fun q : Nat => s.heap.size ≤ q) a := fun a h => Nat.not_le.mpr h
  have hs : ∀ w ∈ m_fl0, w.before #[Value.ref b] s = true := flat_of_before _ hgv
  -- classes
  have hKn : ∀ k : Nat, ∃ x : ClassId × (Nat → Nat), ∀ q : vw_C, m_cl[k]? = some q → u_Kn s q.1 q.2.1 q.2.2 x.1 x.2 := by
    intro k
    rcases Nat.lt_or_ge k 10 with hk | hk
    · obtain ⟨q, ty, h1, h2, h3, h4, h5, h6, h7, h8⟩ := m_cfs k hk
      obtain ⟨cC, iS, hK⟩ := u_known hts h3 (hts _ h7)
      exact ⟨(cC, iS), fun q9 hq9 => by cases h1.symm.trans hq9; exact hK⟩
    · exact ⟨(0, fun _ => 0), fun q9 hq9 => by
        have : m_cl.length = 10 := rfl
        rw [List.getElem?_eq_none (by omega)] at hq9
        cases hq9⟩
  obtain ⟨dX, hdX⟩ := Classical.axiomOfChoice hKn
  -- rows
  obtain ⟨a0, a01, a02⟩ := m_arrc (hts _ (m_karr _ (List.mem_of_getElem? (i := 0) rfl)))
  obtain ⟨a1, a11, a12⟩ := m_arrc (hts _ (m_karr _ (List.mem_of_getElem? (i := 1) rfl)))
  obtain ⟨a2, a21, a22⟩ := m_arrc (hts _ (m_karr _ (List.mem_of_getElem? (i := 2) rfl)))
  obtain ⟨a3, a31, a32⟩ := m_arrc (hts _ (m_karr _ (List.mem_of_getElem? (i := 3) rfl)))
  have o6 : va_AO RX6 s := va_AO.of (hts _ (m_karr _ (List.mem_of_getElem? (i := 4) rfl)))
  have o3 : va_AO RX3 s := va_AO.of (hts _ (m_karr _ (List.mem_of_getElem? (i := 5) rfl)))
  have o0 : va_AO RX0 s := va_AO.of (hts _ (m_karr _ (List.mem_of_getElem? (i := 6) rfl)))
  have oA : (Cond.arrayOver (.array .int)).before #[] s = true := over_moved (Vm.Alike.refl _) (hts _ (m_karr _ (List.mem_of_getElem? (i := 7) rfl)))
  obtain ⟨a4, a41, a42⟩ := m_arro o6
  obtain ⟨a5, a51, a52⟩ := m_arro o3
  obtain ⟨a6, a61, a62⟩ := m_arro o0
  obtain ⟨a7, a71, a72⟩ := m_arra oA
  -- what stands still
  obtain ⟨adK, adV, hS9, hSev⟩ := vk_Sof (args := #[Value.ref b]) (s := s) (N := 6) (tm := m_tm) (len := m_sln) (byt := m_sby) (A := fun q => s.heap.size ≤ q) (by decide) (fun k hk => hs _ (m_g1 k hk)) (fun k hk => hs _ (m_g2 k hk)) (fun k hk => hs _ (m_g3 k hk)) (fun k hk => hs _ (m_g4 k hk)) (fun k hk j hj => hs _ (m_g5 k hk j hj)) (fun k j hk hj hne => (m_g6 k hk j hj hne).imp (hs _) (hs _)) hA
  obtain ⟨tL, hTe, hTT⟩ := va_Tof (args := #[Value.ref b]) (s := s) (tm := .static "PastHeaps" "LIMITS" "[I") (ty := .int) (N := 18) (f := fun j => .int (m_lim.getD j 0)) (A := fun q => s.heap.size ≤ q) (by decide) (hs _ m_g7) (va_eqt (hs _ m_g8)) (fun j hj => va_eqt (hs _ (m_g9 j hj))) hA
  have z1 : va_Z "java/lang/String" "COMPACT_STRINGS" "Z" (.int 1) (fun q => s.heap.size ≤ q) s s.heap := va_Zof (hts _ (m_wst _ (List.mem_of_getElem? (i := 0) rfl))) (hts _ (m_wst _ (List.mem_of_getElem? (i := 3) rfl))) (va_eqt (hs _ m_g10)) hA
  have z2 : va_Z "PastHeaps" "LIMITS" "[I" (.ref tL) (fun q => s.heap.size ≤ q) s s.heap := va_Zof (hts _ (m_wst _ (List.mem_of_getElem? (i := 1) rfl))) (hts _ (m_wst _ (List.mem_of_getElem? (i := 4) rfl))) hTe hA
  obtain ⟨vS, hvS, z3⟩ : ∃ vS : Value, (vS = .null ∨ ∃ r, vS = .ref r) ∧ va_Z "jdk/internal/util/Preconditions" "SIOOBE_FORMATTER" "Ljava/util/function/BiFunction;" vS (fun q => s.heap.size ≤ q) s s.heap := by
    rcases va_Zqof (A := fun q => s.heap.size ≤ q) (hts _ (m_wst _ (List.mem_of_getElem? (i := 2) rfl))) (hts _ (m_wst _ (List.mem_of_getElem? (i := 5) rfl))) (hs _ m_g11) hA with q | ⟨t, q⟩
    · exact ⟨_, Or.inl rfl, q⟩
    · exact ⟨_, Or.inr ⟨t, rfl⟩, q⟩
  obtain ⟨cst, hcst⟩ : ∃ cst : Nat → Value, cst = fun a => if a = 1 then .ref tL else if 2 ≤ a ∧ a < 8 then .ref (adK (a - 2)) else if 8 ≤ a ∧ a < 14 then .ref (adV (a - 8)) else if a = 14 then .ref b else if a = 15 then vS else .null := ⟨_, rfl⟩
  have hc : m_cok cst := by
    intro a
    rw [hcst]
    dsimp only
    repeat' split
    all_goals first | exact Or.inr ⟨_, rfl⟩ | exact hvS | exact Or.inl rfl
  have hlt : ∀ {q : Nat} {cell : Cell}, s.heap[q]? = some cell → q < s.heap.size := fun h => (Array.getElem?_eq_some_iff.mp h).1
  have hks : KS (fun k => (dX k).1, fun k => (dX k).2) (fun k => if k = 20 then a0 else if k = 21 then a1 else if k = 22 then a2 else if k = 25 then a3 else if k = 30 then a4 else if k = 31 then a5 else if k = 32 then a6 else a7) cst s := by
    refine ⟨⟨fun k q hq => hdX k q hq, fun k q hq => ?_⟩, fun w hw hn => va_Nw.of (by cases w <;> first | rfl | exact absurd hn (by simp [m_nest])) (hts w hw), o6, o3, o0, oA, fun k q hq => ?_⟩
    · match k, hq with
      | 0, hq => cases hq; exact ⟨a02, a01⟩
      | 1, hq => cases hq; exact ⟨a12, a11⟩
      | 2, hq => cases hq; exact ⟨a22, a21⟩
      | 3, hq => cases hq; exact ⟨a32, a31⟩
      | 4, hq => cases hq; exact ⟨a41, a42⟩
      | 5, hq => cases hq; exact ⟨a51, a52⟩
      | 6, hq => cases hq; exact ⟨a61, a62⟩
      | 7, hq => cases hq; exact ⟨a71, a72⟩
      | k + 8, hq => simp at hq
    · have hk : k < 6 := (List.getElem?_eq_some_iff.mp hq).1
      refine ⟨adK k, ?_, vk_R.of (hts _ (m_wsr _ (List.mem_map.mpr ⟨q, List.mem_of_getElem? hq, rfl⟩))) ?_⟩
      · rw [hcst]
        dsimp only
        rw [if_neg (by omega), if_pos (by omega), Nat.add_sub_cancel_left]
      · have h9 := hSev k hk
        have e9 : m_tm k = .string q.1 q.2.1 := by
          unfold m_tm
          rw [List.getD_eq_getElem?_getD, hq]
          rfl
        rw [e9] at h9
        exact h9
  have hR : HR (fun k => (dX k).1, fun k => (dX k).2) (fun k => if k = 20 then a0 else if k = 21 then a1 else if k = 22 then a2 else if k = 25 then a3 else if k = 30 then a4 else if k = 31 then a5 else if k = 32 then a6 else a7) cst s.heap.size s (m_h0 L xs) s.heap := by
    refine ⟨rfl, fun a h1 h2 => absurd h2 (by have : h_n (m_h0 L xs) = 0 := rfl; omega), fun a ha => ?_, fun a ha => ?_, ⟨z1, ?_, ?_⟩, rfl⟩
    · have : h_n (m_h0 L xs) = 0 := rfl
      show (m_kd0 L a).1 = 0
      unfold m_kd0
      rw [if_neg (by omega), if_neg (by omega), if_neg (by omega), if_neg (by omega)]
    · have hk0 : h_k (m_h0 L xs) a = m_kd0 L a := rfl
      have hi0 : h_i (m_h0 L xs) a = m_hi0 xs a := rfl
      have hr0 : h_r (m_h0 L xs) a = m_hr0 a := rfl
      unfold m_cst
      rw [hk0, hi0, hr0]
      by_cases c1 : a = 1
      · have e1 : m_kd0 L a = (20, 18) := by unfold m_kd0; rw [if_pos c1]
        rw [e1]
        obtain ⟨cell, g1, g2, g3, g4, g5, g6, g7⟩ := hTT
        refine ⟨tL, cell, by rw [hcst]; dsimp only; rw [if_pos c1], hlt g1, g1, g2, g3, g4, g5, fun j hj => ?_⟩
        rw [g6 j hj]
        unfold m_hi0
        rw [if_pos c1]
      · by_cases c2 : 2 ≤ a ∧ a < 8
        · have e1 : m_kd0 L a = (40, 0) := by unfold m_kd0; rw [if_neg c1, if_pos c2]
          rw [e1]
          obtain ⟨g1, g2, g3, g4⟩ := hS9.1 (a - 2) (by omega)
          have g0 := g1
          obtain ⟨cell, q1, -⟩ := g0
          have e2 : m_hi0 xs a 1 = 0 := by unfold m_hi0; rw [if_neg c1, if_neg (by omega), if_neg (by omega)]
          have e3 : m_hr0 a 0 = a + 6 := by unfold m_hr0; rw [if_pos ⟨c2.1, c2.2, rfl⟩]
          refine ⟨adK (a - 2), by rw [hcst]; dsimp only; rw [if_neg c1, if_pos c2], hlt q1, g1, by rw [e2]; exact g2, ?_⟩
          rw [e3, mv_cst (by omega) (by omega), hcst]
          dsimp only
          rw [if_neg (by omega), if_neg (by omega), if_pos (by omega), show a + 6 - 8 = a - 2 by omega]
          exact g3
        · by_cases c3 : 8 ≤ a ∧ a < 14
          · have e1 : m_kd0 L a = (21, m_sln.getD (a - 8) 0) := by unfold m_kd0; rw [if_neg c1, if_neg c2, if_pos c3]
            rw [e1]
            obtain ⟨g1, g2, g3, ⟨cell, q1, q2, q3, q4, q5, q6, q7⟩⟩ := hS9.1 (a - 8) (by omega)
            refine ⟨adV (a - 8), cell, by rw [hcst]; dsimp only; rw [if_neg c1, if_neg c2, if_pos c3], hlt q1, q1, q2, q3, q4, q5, fun j hj => ?_⟩
            rw [q6 j hj]
            unfold m_hi0
            rw [if_neg c1, if_pos c3]
          · by_cases c4 : a = 14
            · have e1 : m_kd0 L a = (20, L) := by unfold m_kd0; rw [if_neg c1, if_neg c2, if_neg c3, if_pos c4]
              rw [e1]
              obtain ⟨scr, g1, g2, g3, g4, g5⟩ := hX
              refine ⟨b, scr, by rw [hcst]; dsimp only; rw [if_neg c1, if_neg c2, if_neg c3, if_pos c4], hbl, g1, g2, g3, by rw [g4]; exact Nat.le_refl _, by rw [g4], fun j hj => ?_⟩
              rw [g5 j hj]
              unfold m_hi0
              rw [if_neg c1, if_neg c3, if_pos c4]
            · have e1 : m_kd0 L a = (0, 0) := by unfold m_kd0; rw [if_neg c1, if_neg c2, if_neg c3, if_neg c4]
              rw [e1]
              trivial
    · rw [hcst]
      exact z2
    · rw [hcst]
      exact z3
  have C : SC p s m #[Value.ref b] meth c room_1 0 (fun k => (dX k).1, fun k => (dX k).2) (fun k => if k = 20 then a0 else if k = 21 then a1 else if k = 22 then a2 else if k = 25 then a3 else if k = 30 then a4 else if k = 31 then a5 else if k = 32 then a6 else a7) cst s.heap.size := ⟨hx, hb, hml, hown, fun w hw => hts w (List.mem_filter.mp hw).1, hlocks, fun hk => absurd hk (by decide), by decide +kernel, by decide +kernel, hks, hc, hr⟩
  rw [lg_entry_eq]
  have hl := lv_entry ([.ref b] : List Value) (n := 4) (Nat.le_of_ble_eq_true rfl)
  have e14 : ml cst s.heap.size [(0, .ref 14)] = [(0, .ref b)] := by
    show [(0, mv cst s.heap.size (.ref 14))] = _
    rw [mv_cst (by decide) (by decide), hcst]
    rfl
  refine m_sim l _ _ cst s.heap.size n 0 0 _ _ _ _ _ hrun C s.heap [] 0 0 _ hR (fun q hq => by cases hq) (by rw [e14]; exact hl) ?_ ?_ ?_
  · show 0 + (h_n h' - 0) ≤ 600000
    omega
  · show 0 + (h_z h' - 0) ≤ 7302250
    omega
  · intro pc ls H locs ins hd hri hR1 hlo
    rcases hri with ⟨x, e1, e2, e3⟩ | ⟨x, e1, -⟩ | ⟨x, e1, -⟩ | ⟨e1, -⟩
    · cases e1
      subst e2
      refine va_forget hlo ?_
      refine W.widen (k := 600000) (n := 7302250) ?_ ?_ ?_
      · show 0 + (h_n h' - 0) ≤ 600000
        omega
      · show 0 + (h_z h' - 0) ≤ 7302250
        omega
      · exact lw_ret hx hb hr hlocks hd
    · cases e1
    · cases e1
    · cases e1
