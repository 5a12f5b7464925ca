-- statics and String constants, by their entries
theorem m_KSF : ∀ (k : Nat) (o : String) (l : List (Nat × Nat)), m_own[k]? = some o → m_sfl[k]? = some l → ∀ e ∈ l, (o = "PastHeaps$Reader" ∧ e = (70, 2)) ∨ (o = "java/lang/String" ∧ e = (38, 1)) ∨ (o = "java/lang/String" ∧ e = (1053, 3))
  | 0, _, _, h1, h2 => by cases h1; cases h2; decide +kernel
  | 1, _, _, h1, h2 => by cases h1; cases h2; decide +kernel
  | 2, _, _, h1, h2 => by cases h1; cases h2; decide +kernel
  | 3, _, _, h1, h2 => by cases h1; cases h2; decide +kernel
  | 4, _, _, h1, h2 => by cases h1; cases h2; decide +kernel
  | 5, _, _, h1, h2 => by cases h1; cases h2; decide +kernel
  | 6, _, _, h1, h2 => by cases h1; cases h2; decide +kernel
  | 7, _, _, h1, h2 => by cases h1; cases h2; decide +kernel
  | 8, _, _, h1, h2 => by cases h1; cases h2; decide +kernel
  | 9, _, _, h1, h2 => by cases h1; cases h2; decide +kernel
  | 10, _, _, h1, h2 => by cases h1; cases h2; decide +kernel
  | 11, _, _, h1, h2 => by cases h1; cases h2; decide +kernel
  | 12, _, _, h1, h2 => by cases h1; cases h2; decide +kernel
  | 13, _, _, h1, h2 => by cases h1; cases h2; decide +kernel
  | 14, _, _, h1, h2 => by cases h1; cases h2; decide +kernel
  | 15, _, _, h1, h2 => by cases h1; cases h2; decide +kernel
  | 16, _, _, h1, h2 => by cases h1; cases h2; decide +kernel
  | 17, _, _, h1, h2 => by cases h1; cases h2; decide +kernel
  | 18, _, _, h1, h2 => by cases h1; cases h2; decide +kernel
  | k + 19, _, _, h1, h2 => by simp [m_own] at h1
theorem m_KSS : ∀ (k : Nat) (o : String) (l : List (Nat × Nat)), m_own[k]? = some o → m_sck[k]? = some l → ∀ e ∈ l, ∃ k, k < m_strs.length ∧ e.2 = 2 + k ∧ (m_strs.map (fun q => (q.1, q.2.1)))[k]? = some (o, e.1)
  | 0, _, _, h1, h2 => by cases h1; cases h2; decide +kernel
  | 1, _, _, h1, h2 => by cases h1; cases h2; decide +kernel
  | 2, _, _, h1, h2 => by cases h1; cases h2; decide +kernel
  | 3, _, _, h1, h2 => by cases h1; cases h2; decide +kernel
  | 4, _, _, h1, h2 => by cases h1; cases h2; decide +kernel
  | 5, _, _, h1, h2 => by cases h1; cases h2; decide +kernel
  | 6, _, _, h1, h2 => by cases h1; cases h2; decide +kernel
  | 7, _, _, h1, h2 => by cases h1; cases h2; decide +kernel
  | 8, _, _, h1, h2 => by cases h1; cases h2; decide +kernel
  | 9, _, _, h1, h2 => by cases h1; cases h2; decide +kernel
  | 10, _, _, h1, h2 => by cases h1; cases h2; decide +kernel
  | 11, _, _, h1, h2 => by cases h1; cases h2; decide +kernel
  | 12, _, _, h1, h2 => by cases h1; cases h2; decide +kernel
  | 13, _, _, h1, h2 => by cases h1; cases h2; decide +kernel
  | 14, _, _, h1, h2 => by cases h1; cases h2; decide +kernel
  | 15, _, _, h1, h2 => by cases h1; cases h2; decide +kernel
  | 16, _, _, h1, h2 => by cases h1; cases h2; decide +kernel
  | 17, _, _, h1, h2 => by cases h1; cases h2; decide +kernel
  | 18, _, _, h1, h2 => by cases h1; cases h2; decide +kernel
  | k + 19, _, _, h1, h2 => by simp [m_own] at h1
theorem m_ksf1 : Cond.fieldLink "java/lang/String" 38 "java/lang/String" "COMPACT_STRINGS" "Z" ∈ lw_tbl := List.mem_of_getElem? (i := 383) (by decide +kernel)
def m_sfi1 : String × Nat := ("java/lang/String", 38)
theorem m_ksf2 : Cond.fieldLinkNest "PastHeaps$Reader" 70 "PastHeaps" "LIMITS" "[I" "PastHeaps" ∈ lw_tbl := List.mem_of_getElem? (i := 448) (by decide +kernel)
def m_sfi2 : String × Nat := ("PastHeaps$Reader", 70)
theorem m_ksf3 : Cond.fieldLink "java/lang/String" 1053 "jdk/internal/util/Preconditions" "SIOOBE_FORMATTER" "Ljava/util/function/BiFunction;" ∈ lw_tbl := List.mem_of_getElem? (i := 399) (by decide +kernel)
def m_sfi3 : String × Nat := ("java/lang/String", 1053)
theorem m_kjmin : (m_name m_jmin = Lib.Math.min.name ∧ m_jmin ≠ 900 ∧ m_jmin ≠ 901) ∧ Cond.static Lib.Math.min.name ∈ lw_tbl ∧ Cond.initialized "java/lang/Math" ∈ lw_tbl := ⟨by decide +kernel, List.mem_of_getElem? (i := 341) (by decide +kernel), List.mem_of_getElem? (i := 112) (by decide +kernel)⟩
set_option maxRecDepth 100000 in
theorem m_kcmin : Cond.code Lib.Math.min.name Lib.Math.min.code 2 (some .int) ∈ lw_tbl := List.mem_of_getElem? (i := 342) rfl
theorem m_kjmax : (m_name m_jmax = Lib.Math.max.name ∧ m_jmax ≠ 900 ∧ m_jmax ≠ 901) ∧ Cond.static Lib.Math.max.name ∈ lw_tbl ∧ Cond.initialized "java/lang/Math" ∈ lw_tbl := ⟨by decide +kernel, List.mem_of_getElem? (i := 589) (by decide +kernel), List.mem_of_getElem? (i := 112) (by decide +kernel)⟩
set_option maxRecDepth 100000 in
theorem m_kcmax : Cond.code Lib.Math.max.name Lib.Math.max.code 2 (some .int) ∈ lw_tbl := List.mem_of_getElem? (i := 590) rfl
theorem m_kjmaxl : (m_name m_jmaxl = Lib.MathLoose.max_long.x ∧ m_jmaxl ≠ 900 ∧ m_jmaxl ≠ 901) ∧ Cond.static Lib.MathLoose.max_long.x ∈ lw_tbl ∧ Cond.initialized "java/lang/Math" ∈ lw_tbl := ⟨by decide +kernel, List.mem_of_getElem? (i := 984) (by decide +kernel), List.mem_of_getElem? (i := 112) (by decide +kernel)⟩
set_option maxRecDepth 100000 in
theorem m_kcmaxl : Cond.code Lib.MathLoose.max_long.x Lib.MathLoose.max_long.code 4 (some .long) ∈ lw_tbl := List.mem_of_getElem? (i := 985) rfl
theorem m_kjminl : (m_name m_jminl = Lib.MathLoose.min_long.x ∧ m_jminl ≠ 900 ∧ m_jminl ≠ 901) ∧ Cond.static Lib.MathLoose.min_long.x ∈ lw_tbl ∧ Cond.initialized "java/lang/Math" ∈ lw_tbl := ⟨by decide +kernel, List.mem_of_getElem? (i := 987) (by decide +kernel), List.mem_of_getElem? (i := 112) (by decide +kernel)⟩
set_option maxRecDepth 100000 in
theorem m_kcminl : Cond.code Lib.MathLoose.min_long.x Lib.MathLoose.min_long.code 4 (some .long) ∈ lw_tbl := List.mem_of_getElem? (i := 988) rfl
theorem m_mem1 {j : Nat} (h0 : 0 < j) (h : j < 292) : m_m j ∈ m_meths_0.drop 1 ++ (m_meths_1 ++ (m_meths_2 ++ (m_meths_3 ++ (m_meths_4 ++ (m_meths_5 ++ (m_meths_6 ++ (m_meths_7 ++ (m_meths_8 ++ (m_meths_9 ++ (m_meths_10 ++ (m_meths_11 ++ (m_meths_12)))))))))))) := by
  have hl : m_meths.length = 292 := by decide +kernel
  have e9 : m_meths.drop 1 = m_meths_0.drop 1 ++ (m_meths_1 ++ (m_meths_2 ++ (m_meths_3 ++ (m_meths_4 ++ (m_meths_5 ++ (m_meths_6 ++ (m_meths_7 ++ (m_meths_8 ++ (m_meths_9 ++ (m_meths_10 ++ (m_meths_11 ++ (m_meths_12)))))))))))) := rfl
  rw [← e9]
  refine List.mem_of_getElem? (i := j - 1) ?_
  rw [List.getElem?_drop, show 1 + (j - 1) = j by omega]
  unfold m_m
  rw [List.getD_eq_getElem?_getD, List.getElem?_eq_getElem (by omega)]
  rfl
theorem m_KC (j : Nat) (h0 : 0 < j) (h : j < 292) : m_cw (m_m j) ∈ lw_tbl := (show ∀ q ∈ m_meths_0.drop 1 ++ (m_meths_1 ++ (m_meths_2 ++ (m_meths_3 ++ (m_meths_4 ++ (m_meths_5 ++ (m_meths_6 ++ (m_meths_7 ++ (m_meths_8 ++ (m_meths_9 ++ (m_meths_10 ++ (m_meths_11 ++ (m_meths_12)))))))))))), m_cw q ∈ lw_tbl from (fun q h => (List.mem_append.mp h).elim ((fun q hq => m_kc0 _ (List.mem_map.mpr ⟨q, hq, rfl⟩)) q) ((fun q h => (List.mem_append.mp h).elim ((fun q hq => m_kc1 _ (List.mem_map.mpr ⟨q, hq, rfl⟩)) q) ((fun q h => (List.mem_append.mp h).elim ((fun q hq => m_kc2 _ (List.mem_map.mpr ⟨q, hq, rfl⟩)) q) ((fun q h => (List.mem_append.mp h).elim ((fun q hq => m_kc3 _ (List.mem_map.mpr ⟨q, hq, rfl⟩)) q) ((fun q h => (List.mem_append.mp h).elim ((fun q hq => m_kc4 _ (List.mem_map.mpr ⟨q, hq, rfl⟩)) q) ((fun q h => (List.mem_append.mp h).elim ((fun q hq => m_kc5 _ (List.mem_map.mpr ⟨q, hq, rfl⟩)) q) ((fun q h => (List.mem_append.mp h).elim ((fun q hq => m_kc6 _ (List.mem_map.mpr ⟨q, hq, rfl⟩)) q) ((fun q h => (List.mem_append.mp h).elim ((fun q hq => m_kc7 _ (List.mem_map.mpr ⟨q, hq, rfl⟩)) q) ((fun q h => (List.mem_append.mp h).elim ((fun q hq => m_kc8 _ (List.mem_map.mpr ⟨q, hq, rfl⟩)) q) ((fun q h => (List.mem_append.mp h).elim ((fun q hq => m_kc9 _ (List.mem_map.mpr ⟨q, hq, rfl⟩)) q) ((fun q h => (List.mem_append.mp h).elim ((fun q hq => m_kc10 _ (List.mem_map.mpr ⟨q, hq, rfl⟩)) q) ((fun q h => (List.mem_append.mp h).elim ((fun q hq => m_kc11 _ (List.mem_map.mpr ⟨q, hq, rfl⟩)) q) ((fun q hq => m_kc12 _ (List.mem_map.mpr ⟨q, hq, rfl⟩)) q)) q)) q)) q)) q)) q)) q)) q)) q)) q)) q)) q))) _ (m_mem1 h0 h)
theorem m_KW (j : Nat) (h0 : 0 < j) (h : j < 292) : ∀ w ∈ m_kw (m_m j), w ∈ lw_tbl := (show ∀ q ∈ m_meths_0.drop 1 ++ (m_meths_1 ++ (m_meths_2 ++ (m_meths_3 ++ (m_meths_4 ++ (m_meths_5 ++ (m_meths_6 ++ (m_meths_7 ++ (m_meths_8 ++ (m_meths_9 ++ (m_meths_10 ++ (m_meths_11 ++ (m_meths_12)))))))))))), ∀ w ∈ m_kw q, w ∈ lw_tbl from (fun q h => (List.mem_append.mp h).elim ((fun (q : m_M) (hq : q ∈ m_meths_0.drop 1) (w : Cond) (hw : w ∈ m_kw q) => m_kw0 w (List.mem_flatMap.mpr ⟨q, hq, hw⟩)) q) ((fun q h => (List.mem_append.mp h).elim ((fun (q : m_M) (hq : q ∈ m_meths_1) (w : Cond) (hw : w ∈ m_kw q) => m_kw1 w (List.mem_flatMap.mpr ⟨q, hq, hw⟩)) q) ((fun q h => (List.mem_append.mp h).elim ((fun (q : m_M) (hq : q ∈ m_meths_2) (w : Cond) (hw : w ∈ m_kw q) => m_kw2 w (List.mem_flatMap.mpr ⟨q, hq, hw⟩)) q) ((fun q h => (List.mem_append.mp h).elim ((fun (q : m_M) (hq : q ∈ m_meths_3) (w : Cond) (hw : w ∈ m_kw q) => m_kw3 w (List.mem_flatMap.mpr ⟨q, hq, hw⟩)) q) ((fun q h => (List.mem_append.mp h).elim ((fun (q : m_M) (hq : q ∈ m_meths_4) (w : Cond) (hw : w ∈ m_kw q) => m_kw4 w (List.mem_flatMap.mpr ⟨q, hq, hw⟩)) q) ((fun q h => (List.mem_append.mp h).elim ((fun (q : m_M) (hq : q ∈ m_meths_5) (w : Cond) (hw : w ∈ m_kw q) => m_kw5 w (List.mem_flatMap.mpr ⟨q, hq, hw⟩)) q) ((fun q h => (List.mem_append.mp h).elim ((fun (q : m_M) (hq : q ∈ m_meths_6) (w : Cond) (hw : w ∈ m_kw q) => m_kw6 w (List.mem_flatMap.mpr ⟨q, hq, hw⟩)) q) ((fun q h => (List.mem_append.mp h).elim ((fun (q : m_M) (hq : q ∈ m_meths_7) (w : Cond) (hw : w ∈ m_kw q) => m_kw7 w (List.mem_flatMap.mpr ⟨q, hq, hw⟩)) q) ((fun q h => (List.mem_append.mp h).elim ((fun (q : m_M) (hq : q ∈ m_meths_8) (w : Cond) (hw : w ∈ m_kw q) => m_kw8 w (List.mem_flatMap.mpr ⟨q, hq, hw⟩)) q) ((fun q h => (List.mem_append.mp h).elim ((fun (q : m_M) (hq : q ∈ m_meths_9) (w : Cond) (hw : w ∈ m_kw q) => m_kw9 w (List.mem_flatMap.mpr ⟨q, hq, hw⟩)) q) ((fun q h => (List.mem_append.mp h).elim ((fun (q : m_M) (hq : q ∈ m_meths_10) (w : Cond) (hw : w ∈ m_kw q) => m_kw10 w (List.mem_flatMap.mpr ⟨q, hq, hw⟩)) q) ((fun q h => (List.mem_append.mp h).elim ((fun (q : m_M) (hq : q ∈ m_meths_11) (w : Cond) (hw : w ∈ m_kw q) => m_kw11 w (List.mem_flatMap.mpr ⟨q, hq, hw⟩)) q) ((fun (q : m_M) (hq : q ∈ m_meths_12) (w : Cond) (hw : w ∈ m_kw q) => m_kw12 w (List.mem_flatMap.mpr ⟨q, hq, hw⟩)) q)) q)) q)) q)) q)) q)) q)) q)) q)) q)) q)) q))) _ (m_mem1 h0 h)
theorem m_nameq {j : Nat} (h : j < 292) (h1 : ¬ j = 900) (h2 : ¬ j = 901) : m_name j = (m_m j).2.1 := by
  have hl : m_meths.length = 292 := by decide +kernel
  unfold m_name m_m
  rw [if_neg h1, if_neg h2, List.getD_eq_getElem?_getD, List.getElem?_eq_getElem (by omega)]
  rfl
