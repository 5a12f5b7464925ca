-- CONSTRUCTORS, RUN
theorem sx_eq {h0 h : MH} {D D2 : List NC} {Z Z2 : Nat} (S : SX h0 h D Z) (e : decide (D = D2 ∧ Z = Z2) = true) : SX h0 h D2 Z2 := by
  obtain ⟨e1, e2⟩ := of_decide_eq_true e
  rw [← e1, ← e2]
  exact S
def past_D : List NC := [((4, 14), [(10, 69), (9, 68), (8, 67), (7, 66), (6, 65), (5, 64), (4, 63), (3, 62), (2, 20), (1, 15), (0, 1)]), ((3, 7), [(4, 6), (3, 5), (2, 4), (1, 3), (0, 2)]), ((20, 448), []), ((25, 64), []), ((20, 6), []), ((20, 6), []), ((8, 10), [(7, 14), (6, 13), (5, 12), (4, 11), (3, 10), (2, 9), (1, 8), (0, 7)]), ((20, 63), []), ((20, 63), []), ((20, 63), []), ((20, 63), []), ((20, 63), []), ((20, 63), []), ((20, 63), []), ((22, 63), []), ((2, 4), [(3, 19), (2, 18), (1, 17), (0, 16)]), ((20, 41), []), ((20, 41), []), ((25, 41), []), ((25, 41), []), ((33, 41), nx_gl 20 41), ((20, 6), []), ((20, 6), []), ((20, 6), []), ((20, 6), []), ((20, 6), []), ((20, 6), []), ((20, 6), []), ((20, 6), []), ((20, 6), []), ((20, 6), []), ((20, 6), []), ((20, 6), []), ((20, 6), []), ((20, 6), []), ((20, 6), []), ((20, 6), []), ((20, 6), []), ((20, 6), []), ((20, 6), []), ((20, 6), []), ((20, 6), []), ((20, 6), []), ((20, 6), []), ((20, 6), []), ((20, 6), []), ((20, 6), []), ((20, 6), []), ((20, 6), []), ((20, 6), []), ((20, 6), []), ((20, 6), []), ((20, 6), []), ((20, 6), []), ((20, 6), []), ((20, 6), []), ((20, 6), []), ((20, 6), []), ((20, 6), []), ((20, 6), []), ((20, 6), []), ((20, 6), []), ((20, 41), []), ((20, 40), []), ((20, 40), []), ((20, 40), []), ((20, 6), []), ((20, 6), []), ((20, 5), []), ((20, 5), [])]
def past_R : List Nat := [29, 39, 40, 41, 35, 38, 16, 17, 18, 21, 19, 23, 20, 22, 24, 42, 43, 44, 45, 46, 30, 35, 35, 35, 35, 35, 35, 35, 35, 35, 35, 35, 35, 35, 35, 35, 35, 35, 35, 35, 35, 35, 35, 35, 35, 35, 35, 35, 35, 35, 35, 35, 35, 35, 35, 35, 35, 35, 35, 35, 35, 35, 31, 32, 33, 34, 35, 35, 36, 37]
def past_Z : Nat := 1697
theorem past_T : nx_all past_D past_R = true := by decide +kernel
theorem c_past {h0 h : MH} {Q : Option Value → MH → Prop} (S : SX h0 h [((4, 14), [])] 14) (g : ∀ h', SX h0 h' past_D past_Z → Q none h') : HJ 42 0 (lv_args 0 [.ref (16 + h_n h0 + 0)]) [] h Q := by
  refine hI_al (k := 0) rfl rfl rfl ?_ -- 42.0
  refine hS_obj (j := 0) rfl rfl ⟨by decide +kernel, by show 0 + 12 ≤ _; decide +kernel, by show 0 ≤ 8; decide⟩ rfl ?_ -- 42.1
  refine hI_al (k := 0) rfl rfl rfl ?_ -- 42.4
  refine hS_new (c := 2) (j := 1) S rfl rfl (by decide) rfl rfl (fun h1 S1 => ?_) -- 42.5
  refine hI_dup rfl rfl rfl ?_ -- 42.8
  refine hS_call (j := 43) (q := 1) S1 rfl rfl (by decide +kernel) rfl (by decide) rfl (by decide +kernel) rfl (by show 2 ≤ 8; decide) (by decide +kernel) rfl ?_ -- 42.9
  refine hI_al (k := 0) rfl rfl rfl ?_ -- 43.0
  refine hS_obj (j := 1) rfl rfl ⟨by decide +kernel, by show 0 + 12 ≤ _; decide +kernel, by show 0 ≤ 8; decide⟩ rfl ?_ -- 43.1
  refine hI_al (k := 0) rfl rfl rfl ?_ -- 43.4
  refine hM_sp (n := 448) rfl (by decide) rfl (fun x2 q2 => ?_) -- 43.5
  refine hS_newa (t := .int) (n := 448) (j := 2) S1 rfl (by decide) q2 (by decide) rfl rfl (fun h3 S3 => ?_) -- 43.8
  refine hS_pr (c := 2) (k := 0) (j := 1) (q := 2) S3 rfl rfl (by decide +kernel) (by decide) rfl rfl rfl (fun h4 S4 => ?_) -- 43.10
  refine hI_al (k := 0) rfl rfl rfl ?_ -- 43.13
  refine hM_bp (n := 64) rfl (by decide) rfl (fun x5 q5 => ?_) -- 43.14
  refine hS_newa (t := .long) (n := 64) (j := 3) S4 rfl (by decide) q5 (by decide) rfl rfl (fun h6 S6 => ?_) -- 43.16
  refine hS_pr (c := 2) (k := 1) (j := 1) (q := 3) S6 rfl rfl (by decide +kernel) (by decide) rfl rfl rfl (fun h7 S7 => ?_) -- 43.18
  refine hI_al (k := 0) rfl rfl rfl ?_ -- 43.21
  refine hM_bp (n := 6) rfl (by decide) rfl (fun x8 q8 => ?_) -- 43.22
  refine hS_newa (t := .int) (n := 6) (j := 4) S7 rfl (by decide) q8 (by decide) rfl rfl (fun h9 S9 => ?_) -- 43.24
  refine hS_pr (c := 2) (k := 2) (j := 1) (q := 4) S9 rfl rfl (by decide +kernel) (by decide) rfl rfl rfl (fun h10 S10 => ?_) -- 43.26
  refine hI_al (k := 0) rfl rfl rfl ?_ -- 43.29
  refine hM_bp (n := 6) rfl (by decide) rfl (fun x11 q11 => ?_) -- 43.30
  refine hS_newa (t := .int) (n := 6) (j := 5) S10 rfl (by decide) q11 (by decide) rfl rfl (fun h12 S12 => ?_) -- 43.32
  refine hS_pr (c := 2) (k := 3) (j := 1) (q := 5) S12 rfl rfl (by decide +kernel) (by decide) rfl rfl rfl (fun h13 S13 => ?_) -- 43.34
  refine hI_al (k := 0) rfl rfl rfl ?_ -- 43.37
  refine hS_new (c := 7) (j := 6) S13 rfl rfl (by decide) rfl rfl (fun h14 S14 => ?_) -- 43.38
  refine hI_dup rfl rfl rfl ?_ -- 43.41
  refine hS_call (j := 5) (q := 6) S14 rfl rfl (by decide +kernel) rfl (by decide) rfl (by decide +kernel) rfl (by show 2 ≤ 8; decide) (by decide +kernel) rfl ?_ -- 43.42
  refine hI_al (k := 0) rfl rfl rfl ?_ -- 5.0
  refine hS_obj (j := 6) rfl rfl ⟨by decide +kernel, by show 0 + 12 ≤ _; decide +kernel, by show 0 ≤ 8; decide⟩ rfl ?_ -- 5.1
  refine hI_al (k := 0) rfl rfl rfl ?_ -- 5.4
  refine hM_bp (n := 63) rfl (by decide) rfl (fun x15 q15 => ?_) -- 5.5
  refine hS_newa (t := .int) (n := 63) (j := 7) S14 rfl (by decide) q15 (by decide) rfl rfl (fun h16 S16 => ?_) -- 5.7
  refine hS_pr (c := 7) (k := 0) (j := 6) (q := 7) S16 rfl rfl (by decide +kernel) (by decide) rfl rfl rfl (fun h17 S17 => ?_) -- 5.9
  refine hI_al (k := 0) rfl rfl rfl ?_ -- 5.12
  refine hM_bp (n := 63) rfl (by decide) rfl (fun x18 q18 => ?_) -- 5.13
  refine hS_newa (t := .int) (n := 63) (j := 8) S17 rfl (by decide) q18 (by decide) rfl rfl (fun h19 S19 => ?_) -- 5.15
  refine hS_pr (c := 7) (k := 1) (j := 6) (q := 8) S19 rfl rfl (by decide +kernel) (by decide) rfl rfl rfl (fun h20 S20 => ?_) -- 5.17
  refine hI_al (k := 0) rfl rfl rfl ?_ -- 5.20
  refine hM_bp (n := 63) rfl (by decide) rfl (fun x21 q21 => ?_) -- 5.21
  refine hS_newa (t := .int) (n := 63) (j := 9) S20 rfl (by decide) q21 (by decide) rfl rfl (fun h22 S22 => ?_) -- 5.23
  refine hS_pr (c := 7) (k := 2) (j := 6) (q := 9) S22 rfl rfl (by decide +kernel) (by decide) rfl rfl rfl (fun h23 S23 => ?_) -- 5.25
  refine hI_al (k := 0) rfl rfl rfl ?_ -- 5.28
  refine hM_bp (n := 63) rfl (by decide) rfl (fun x24 q24 => ?_) -- 5.29
  refine hS_newa (t := .int) (n := 63) (j := 10) S23 rfl (by decide) q24 (by decide) rfl rfl (fun h25 S25 => ?_) -- 5.31
  refine hS_pr (c := 7) (k := 3) (j := 6) (q := 10) S25 rfl rfl (by decide +kernel) (by decide) rfl rfl rfl (fun h26 S26 => ?_) -- 5.33
  refine hI_al (k := 0) rfl rfl rfl ?_ -- 5.36
  refine hM_bp (n := 63) rfl (by decide) rfl (fun x27 q27 => ?_) -- 5.37
  refine hS_newa (t := .int) (n := 63) (j := 11) S26 rfl (by decide) q27 (by decide) rfl rfl (fun h28 S28 => ?_) -- 5.39
  refine hS_pr (c := 7) (k := 4) (j := 6) (q := 11) S28 rfl rfl (by decide +kernel) (by decide) rfl rfl rfl (fun h29 S29 => ?_) -- 5.41
  refine hI_al (k := 0) rfl rfl rfl ?_ -- 5.44
  refine hM_bp (n := 63) rfl (by decide) rfl (fun x30 q30 => ?_) -- 5.45
  refine hS_newa (t := .int) (n := 63) (j := 12) S29 rfl (by decide) q30 (by decide) rfl rfl (fun h31 S31 => ?_) -- 5.47
  refine hS_pr (c := 7) (k := 5) (j := 6) (q := 12) S31 rfl rfl (by decide +kernel) (by decide) rfl rfl rfl (fun h32 S32 => ?_) -- 5.49
  refine hI_al (k := 0) rfl rfl rfl ?_ -- 5.52
  refine hM_bp (n := 63) rfl (by decide) rfl (fun x33 q33 => ?_) -- 5.53
  refine hS_newa (t := .int) (n := 63) (j := 13) S32 rfl (by decide) q33 (by decide) rfl rfl (fun h34 S34 => ?_) -- 5.55
  refine hS_pr (c := 7) (k := 6) (j := 6) (q := 13) S34 rfl rfl (by decide +kernel) (by decide) rfl rfl rfl (fun h35 S35 => ?_) -- 5.57
  refine hI_al (k := 0) rfl rfl rfl ?_ -- 5.60
  refine hM_bp (n := 63) rfl (by decide) rfl (fun x36 q36 => ?_) -- 5.61
  refine hS_newa (t := .boolean) (n := 63) (j := 14) S35 rfl (by decide) q36 (by decide) rfl rfl (fun h37 S37 => ?_) -- 5.63
  refine hS_pr (c := 7) (k := 7) (j := 6) (q := 14) S37 rfl rfl (by decide +kernel) (by decide) rfl rfl rfl (fun h38 S38 => ?_) -- 5.65
  refine hI_rv rfl rfl ?_ -- 5.68
  show HJ 43 45 (lv_args 0 [.ref (16 + h_n h0 + 1)]) [.ref (16 + h_n h0 + 6), .ref (16 + h_n h0 + 1)] h38 _
  refine hS_pr (c := 2) (k := 4) (j := 1) (q := 6) S38 rfl rfl (by decide +kernel) (by decide) rfl rfl rfl (fun h39 S39 => ?_) -- 43.45
  refine hI_rv rfl rfl ?_ -- 43.48
  show HJ 42 12 (lv_args 0 [.ref (16 + h_n h0 + 0)]) [.ref (16 + h_n h0 + 1), .ref (16 + h_n h0 + 0)] h39 Q
  refine hS_pr (c := 3) (k := 0) (j := 0) (q := 1) S39 rfl rfl (by decide +kernel) (by decide) rfl rfl rfl (fun h40 S40 => ?_) -- 42.12
  refine hI_al (k := 0) rfl rfl rfl ?_ -- 42.15
  refine hS_new (c := 1) (j := 15) S40 rfl rfl (by decide) rfl rfl (fun h41 S41 => ?_) -- 42.16
  refine hI_dup rfl rfl rfl ?_ -- 42.19
  refine hS_call (j := 44) (q := 15) S41 rfl rfl (by decide +kernel) rfl (by decide) rfl (by decide +kernel) rfl (by show 2 ≤ 8; decide) (by decide +kernel) rfl ?_ -- 42.20
  refine hI_al (k := 0) rfl rfl rfl ?_ -- 44.0
  refine hS_obj (j := 15) rfl rfl ⟨by decide +kernel, by show 0 + 12 ≤ _; decide +kernel, by show 0 ≤ 8; decide⟩ rfl ?_ -- 44.1
  refine hI_al (k := 0) rfl rfl rfl ?_ -- 44.4
  refine hM_bp (n := 41) rfl (by decide) rfl (fun x42 q42 => ?_) -- 44.5
  refine hS_newa (t := .int) (n := 41) (j := 16) S41 rfl (by decide) q42 (by decide) rfl rfl (fun h43 S43 => ?_) -- 44.7
  refine hS_pr (c := 1) (k := 0) (j := 15) (q := 16) S43 rfl rfl (by decide +kernel) (by decide) rfl rfl rfl (fun h44 S44 => ?_) -- 44.9
  refine hI_al (k := 0) rfl rfl rfl ?_ -- 44.12
  refine hM_bp (n := 41) rfl (by decide) rfl (fun x45 q45 => ?_) -- 44.13
  refine hS_newa (t := .int) (n := 41) (j := 17) S44 rfl (by decide) q45 (by decide) rfl rfl (fun h46 S46 => ?_) -- 44.15
  refine hS_pr (c := 1) (k := 1) (j := 15) (q := 17) S46 rfl rfl (by decide +kernel) (by decide) rfl rfl rfl (fun h47 S47 => ?_) -- 44.17
  refine hI_al (k := 0) rfl rfl rfl ?_ -- 44.20
  refine hM_bp (n := 41) rfl (by decide) rfl (fun x48 q48 => ?_) -- 44.21
  refine hS_newa (t := .long) (n := 41) (j := 18) S47 rfl (by decide) q48 (by decide) rfl rfl (fun h49 S49 => ?_) -- 44.23
  refine hS_pr (c := 1) (k := 2) (j := 15) (q := 18) S49 rfl rfl (by decide +kernel) (by decide) rfl rfl rfl (fun h50 S50 => ?_) -- 44.25
  refine hI_al (k := 0) rfl rfl rfl ?_ -- 44.28
  refine hM_bp (n := 41) rfl (by decide) rfl (fun x51 q51 => ?_) -- 44.29
  refine hS_newa (t := .long) (n := 41) (j := 19) S50 rfl (by decide) q51 (by decide) rfl rfl (fun h52 S52 => ?_) -- 44.31
  refine hS_pr (c := 1) (k := 3) (j := 15) (q := 19) S52 rfl rfl (by decide +kernel) (by decide) rfl rfl rfl (fun h53 S53 => ?_) -- 44.33
  refine hI_rv rfl rfl ?_ -- 44.36
  show HJ 42 23 (lv_args 0 [.ref (16 + h_n h0 + 0)]) [.ref (16 + h_n h0 + 15), .ref (16 + h_n h0 + 0)] h53 Q
  refine hS_pr (c := 3) (k := 1) (j := 0) (q := 15) S53 rfl rfl (by decide +kernel) (by decide) rfl rfl rfl (fun h54 S54 => ?_) -- 42.23
  refine hI_al (k := 0) rfl rfl rfl ?_ -- 42.26
  refine hM_bp (n := 41) rfl (by decide) rfl (fun x55 q55 => ?_) -- 42.27
  refine hM_bp (n := 6) rfl (by decide) rfl (fun x56 q56 => ?_) -- 42.29
  refine hS_grid (n := 41) (k := 6) (j := 20) S54 rfl rfl rfl q55 q56 (by decide) (by decide) rfl rfl (fun h57 S57 => ?_) -- 42.31
  refine hS_pr (c := 3) (k := 2) (j := 0) (q := 20) S57 rfl rfl (by decide +kernel) (by decide) rfl rfl rfl (fun h58 S58 => ?_) -- 42.35
  refine hI_al (k := 0) rfl rfl rfl ?_ -- 42.38
  refine hM_bp (n := 41) rfl (by decide) rfl (fun x59 q59 => ?_) -- 42.39
  refine hS_newa (t := .int) (n := 41) (j := 62) S58 rfl (by decide) q59 (by decide) rfl rfl (fun h60 S60 => ?_) -- 42.41
  refine hS_pr (c := 3) (k := 3) (j := 0) (q := 62) S60 rfl rfl (by decide +kernel) (by decide) rfl rfl rfl (fun h61 S61 => ?_) -- 42.43
  refine hI_al (k := 0) rfl rfl rfl ?_ -- 42.46
  refine hM_bp (n := 40) rfl (by decide) rfl (fun x62 q62 => ?_) -- 42.47
  refine hS_newa (t := .int) (n := 40) (j := 63) S61 rfl (by decide) q62 (by decide) rfl rfl (fun h63 S63 => ?_) -- 42.49
  refine hS_pr (c := 3) (k := 4) (j := 0) (q := 63) S63 rfl rfl (by decide +kernel) (by decide) rfl rfl rfl (fun h64 S64 => ?_) -- 42.51
  refine hI_al (k := 0) rfl rfl rfl ?_ -- 42.54
  refine hM_bp (n := 40) rfl (by decide) rfl (fun x65 q65 => ?_) -- 42.55
  refine hS_newa (t := .int) (n := 40) (j := 64) S64 rfl (by decide) q65 (by decide) rfl rfl (fun h66 S66 => ?_) -- 42.57
  refine hS_pr (c := 3) (k := 5) (j := 0) (q := 64) S66 rfl rfl (by decide +kernel) (by decide) rfl rfl rfl (fun h67 S67 => ?_) -- 42.59
  refine hI_al (k := 0) rfl rfl rfl ?_ -- 42.62
  refine hM_bp (n := 40) rfl (by decide) rfl (fun x68 q68 => ?_) -- 42.63
  refine hS_newa (t := .int) (n := 40) (j := 65) S67 rfl (by decide) q68 (by decide) rfl rfl (fun h69 S69 => ?_) -- 42.65
  refine hS_pr (c := 3) (k := 6) (j := 0) (q := 65) S69 rfl rfl (by decide +kernel) (by decide) rfl rfl rfl (fun h70 S70 => ?_) -- 42.67
  refine hI_al (k := 0) rfl rfl rfl ?_ -- 42.70
  refine hM_bp (n := 6) rfl (by decide) rfl (fun x71 q71 => ?_) -- 42.71
  refine hS_newa (t := .int) (n := 6) (j := 66) S70 rfl (by decide) q71 (by decide) rfl rfl (fun h72 S72 => ?_) -- 42.73
  refine hS_pr (c := 3) (k := 7) (j := 0) (q := 66) S72 rfl rfl (by decide +kernel) (by decide) rfl rfl rfl (fun h73 S73 => ?_) -- 42.75
  refine hI_al (k := 0) rfl rfl rfl ?_ -- 42.78
  refine hM_bp (n := 6) rfl (by decide) rfl (fun x74 q74 => ?_) -- 42.79
  refine hS_newa (t := .int) (n := 6) (j := 67) S73 rfl (by decide) q74 (by decide) rfl rfl (fun h75 S75 => ?_) -- 42.81
  refine hS_pr (c := 3) (k := 8) (j := 0) (q := 67) S75 rfl rfl (by decide +kernel) (by decide) rfl rfl rfl (fun h76 S76 => ?_) -- 42.83
  refine hI_al (k := 0) rfl rfl rfl ?_ -- 42.86
  refine hM_ic (n := 5) rfl (by decide) rfl (fun x77 q77 => ?_) -- 42.87
  refine hS_newa (t := .int) (n := 5) (j := 68) S76 rfl (by decide) q77 (by decide) rfl rfl (fun h78 S78 => ?_) -- 42.88
  refine hS_pr (c := 3) (k := 9) (j := 0) (q := 68) S78 rfl rfl (by decide +kernel) (by decide) rfl rfl rfl (fun h79 S79 => ?_) -- 42.90
  refine hI_al (k := 0) rfl rfl rfl ?_ -- 42.93
  refine hM_ic (n := 5) rfl (by decide) rfl (fun x80 q80 => ?_) -- 42.94
  refine hS_newa (t := .int) (n := 5) (j := 69) S79 rfl (by decide) q80 (by decide) rfl rfl (fun h81 S81 => ?_) -- 42.95
  refine hS_pr (c := 3) (k := 10) (j := 0) (q := 69) S81 rfl rfl (by decide +kernel) (by decide) rfl rfl rfl (fun h82 S82 => ?_) -- 42.97
  refine hI_rv rfl rfl ?_ -- 42.100
  exact g h82 (sx_eq S82 (by decide +kernel))
def told_D : List NC := [((7, 6), [(2004, 0), (1, 2), (0, 1)]), ((21, 600), []), ((32, 4), [(3, 12), (2, 9), (1, 6), (0, 3)]), ((1, 3), [(1, 5), (0, 4)]), ((20, 40), []), ((20, 120), []), ((1, 3), [(1, 8), (0, 7)]), ((20, 40), []), ((20, 120), []), ((1, 3), [(1, 11), (0, 10)]), ((20, 40), []), ((20, 120), []), ((1, 3), [(1, 14), (0, 13)]), ((20, 40), []), ((20, 120), [])]
def told_R : List Nat := [97, 99, 98, 100, 101, 102, 100, 101, 102, 100, 101, 102, 100, 101, 102]
def told_Z : Nat := 1262
theorem told_T : nx_all told_D told_R = true := by decide +kernel
theorem c_told {h0 h : MH} {Q : Option Value → MH → Prop} (S : SX h0 h [((7, 6), [])] 6) (g : ∀ h', SX h0 h' told_D told_Z → Q none h') : HJ 2 0 (lv_args 0 [.ref (16 + h_n h0 + 0)]) [] h Q := by
  refine hI_al (k := 0) rfl rfl rfl ?_ -- 2.0
  refine hS_obj (j := 0) rfl rfl ⟨by decide +kernel, by show 0 + 12 ≤ _; decide +kernel, by show 0 ≤ 8; decide⟩ rfl ?_ -- 2.1
  refine hI_al (k := 0) rfl rfl rfl ?_ -- 2.4
  refine hM_sp (n := 600) rfl (by decide) rfl (fun x1 q1 => ?_) -- 2.5
  refine hS_newa (t := .byte) (n := 600) (j := 1) S rfl (by decide) q1 (by decide) rfl rfl (fun h2 S2 => ?_) -- 2.8
  refine hS_pr (c := 6) (k := 0) (j := 0) (q := 1) S2 rfl rfl (by decide +kernel) (by decide) rfl rfl rfl (fun h3 S3 => ?_) -- 2.10
  refine hI_al (k := 0) rfl rfl rfl ?_ -- 2.13
  refine hM_ic (n := 4) rfl (by decide) rfl (fun x4 q4 => ?_) -- 2.14
  refine hS_anew (c := 0) (n := 4) (j := 2) S3 rfl rfl (by decide) q4 (by decide) rfl rfl (fun h5 S5 => ?_) -- 2.15
  refine hS_pr (c := 6) (k := 1) (j := 0) (q := 2) S5 rfl rfl (by decide +kernel) (by decide) rfl rfl rfl (fun h6 S6 => ?_) -- 2.18
  refine hI_al (k := 0) rfl rfl rfl ?_ -- 2.21
  refine hM_ic (n := (-1)) rfl (by decide) rfl (fun x7 q7 => ?_) -- 2.22
  refine hS_pi (c := 6) (k := 4) (j := 0) S6 rfl rfl (by decide +kernel) rfl rfl rfl (fun h8 S8 => ?_) -- 2.23
  refine hM_ic (n := 0) rfl (by decide) rfl (fun x9 q9 => ?_) -- 2.26
  refine hM_si (k := 1) rfl (by decide +kernel) rfl (fun lv10 e10_1 u10 => ?_) -- 2.27
  have e10_0 := u10 0 _ (by decide) (Or.inl rfl) (show m_lk (lv_args 0 [.ref (16 + h_n h0 + 0)]) 0 = some (.ref (16 + h_n h0 + 0)) from rfl)
  refine hI_il (k := 1) rfl e10_1 rfl ?_ -- 2.28
  refine hM_ic (n := 4) rfl (by decide) rfl (fun x11 q11 => ?_) -- 2.29
  refine hM_cge (t := 52) rfl q9 q11 (by decide) rfl (fun c => absurd c (by decide)) (fun _ => ?_) -- 2.30
  refine hI_al (k := 0) rfl e10_0 rfl ?_ -- 2.33
  refine hS_gr (c := 6) (k := 1) (j := 0) (q := 2) S8 rfl rfl rfl (by decide) rfl rfl (by decide) rfl rfl ?_ -- 2.34
  refine hI_il (k := 1) rfl e10_1 rfl ?_ -- 2.37
  refine hS_new (c := 0) (j := 3) S8 rfl rfl (by decide) rfl rfl (fun h12 S12 => ?_) -- 2.38
  refine hI_dup rfl rfl rfl ?_ -- 2.41
  refine hS_call (j := 3) (q := 3) S12 rfl rfl (by decide +kernel) rfl (by decide) rfl (by decide +kernel) rfl (by show 3 ≤ 8; decide) (by decide +kernel) rfl ?_ -- 2.42
  refine hI_al (k := 0) rfl rfl rfl ?_ -- 3.0
  refine hS_obj (j := 3) rfl rfl ⟨by decide +kernel, by show 0 + 12 ≤ _; decide +kernel, by show 0 ≤ 8; decide⟩ rfl ?_ -- 3.1
  refine hI_al (k := 0) rfl rfl rfl ?_ -- 3.4
  refine hM_bp (n := 40) rfl (by decide) rfl (fun x13 q13 => ?_) -- 3.5
  refine hS_newa (t := .int) (n := 40) (j := 4) S12 rfl (by decide) q13 (by decide) rfl rfl (fun h14 S14 => ?_) -- 3.7
  refine hS_pr (c := 0) (k := 0) (j := 3) (q := 4) S14 rfl rfl (by decide +kernel) (by decide) rfl rfl rfl (fun h15 S15 => ?_) -- 3.9
  refine hI_al (k := 0) rfl rfl rfl ?_ -- 3.12
  refine hM_bp (n := 120) rfl (by decide) rfl (fun x16 q16 => ?_) -- 3.13
  refine hS_newa (t := .int) (n := 120) (j := 5) S15 rfl (by decide) q16 (by decide) rfl rfl (fun h17 S17 => ?_) -- 3.15
  refine hS_pr (c := 0) (k := 1) (j := 3) (q := 5) S17 rfl rfl (by decide +kernel) (by decide) rfl rfl rfl (fun h18 S18 => ?_) -- 3.17
  refine hI_rv rfl rfl ?_ -- 3.20
  show HJ 2 45 lv10 [.ref (16 + h_n h0 + 3), .int x9, .ref (16 + h_n h0 + 2)] h18 Q
  refine hS_aast (n := 0) (j := 2) (q := 3) S18 rfl q9 rfl rfl (by decide) rfl rfl (fun h19 S19 => ?_) -- 2.45
  refine hM_inc (k := 1) (z := 1) rfl e10_1 q9 (by decide) (by decide) (by decide) (by decide +kernel) rfl (fun lv20 x20 q20 e20_1 u20 => ?_) -- 2.46
  have q20 : x20.toInt = 1 := q20
  have e20_0 := u20 0 _ (by decide) (Or.inl rfl) e10_0
  refine hI_go (pc' := 28) (off := (-21)) rfl (by decide) ?_ -- 2.49
  refine hI_il (k := 1) rfl e20_1 rfl ?_ -- 2.28
  refine hM_ic (n := 4) rfl (by decide) rfl (fun x21 q21 => ?_) -- 2.29
  refine hM_cge (t := 52) rfl q20 q21 (by decide) rfl (fun c => absurd c (by decide)) (fun _ => ?_) -- 2.30
  refine hI_al (k := 0) rfl e20_0 rfl ?_ -- 2.33
  refine hS_gr (c := 6) (k := 1) (j := 0) (q := 2) S19 rfl rfl rfl (by decide) rfl rfl (by decide) rfl rfl ?_ -- 2.34
  refine hI_il (k := 1) rfl e20_1 rfl ?_ -- 2.37
  refine hS_new (c := 0) (j := 6) S19 rfl rfl (by decide) rfl rfl (fun h22 S22 => ?_) -- 2.38
  refine hI_dup rfl rfl rfl ?_ -- 2.41
  refine hS_call (j := 3) (q := 6) S22 rfl rfl (by decide +kernel) rfl (by decide) rfl (by decide +kernel) rfl (by show 3 ≤ 8; decide) (by decide +kernel) rfl ?_ -- 2.42
  refine hI_al (k := 0) rfl rfl rfl ?_ -- 3.0
  refine hS_obj (j := 6) rfl rfl ⟨by decide +kernel, by show 0 + 12 ≤ _; decide +kernel, by show 0 ≤ 8; decide⟩ rfl ?_ -- 3.1
  refine hI_al (k := 0) rfl rfl rfl ?_ -- 3.4
  refine hM_bp (n := 40) rfl (by decide) rfl (fun x23 q23 => ?_) -- 3.5
  refine hS_newa (t := .int) (n := 40) (j := 7) S22 rfl (by decide) q23 (by decide) rfl rfl (fun h24 S24 => ?_) -- 3.7
  refine hS_pr (c := 0) (k := 0) (j := 6) (q := 7) S24 rfl rfl (by decide +kernel) (by decide) rfl rfl rfl (fun h25 S25 => ?_) -- 3.9
  refine hI_al (k := 0) rfl rfl rfl ?_ -- 3.12
  refine hM_bp (n := 120) rfl (by decide) rfl (fun x26 q26 => ?_) -- 3.13
  refine hS_newa (t := .int) (n := 120) (j := 8) S25 rfl (by decide) q26 (by decide) rfl rfl (fun h27 S27 => ?_) -- 3.15
  refine hS_pr (c := 0) (k := 1) (j := 6) (q := 8) S27 rfl rfl (by decide +kernel) (by decide) rfl rfl rfl (fun h28 S28 => ?_) -- 3.17
  refine hI_rv rfl rfl ?_ -- 3.20
  show HJ 2 45 lv20 [.ref (16 + h_n h0 + 6), .int x20, .ref (16 + h_n h0 + 2)] h28 Q
  refine hS_aast (n := 1) (j := 2) (q := 6) S28 rfl q20 rfl rfl (by decide) rfl rfl (fun h29 S29 => ?_) -- 2.45
  refine hM_inc (k := 1) (z := 1) rfl e20_1 q20 (by decide) (by decide) (by decide) (by decide +kernel) rfl (fun lv30 x30 q30 e30_1 u30 => ?_) -- 2.46
  have q30 : x30.toInt = 2 := q30
  have e30_0 := u30 0 _ (by decide) (Or.inl rfl) e20_0
  refine hI_go (pc' := 28) (off := (-21)) rfl (by decide) ?_ -- 2.49
  refine hI_il (k := 1) rfl e30_1 rfl ?_ -- 2.28
  refine hM_ic (n := 4) rfl (by decide) rfl (fun x31 q31 => ?_) -- 2.29
  refine hM_cge (t := 52) rfl q30 q31 (by decide) rfl (fun c => absurd c (by decide)) (fun _ => ?_) -- 2.30
  refine hI_al (k := 0) rfl e30_0 rfl ?_ -- 2.33
  refine hS_gr (c := 6) (k := 1) (j := 0) (q := 2) S29 rfl rfl rfl (by decide) rfl rfl (by decide) rfl rfl ?_ -- 2.34
  refine hI_il (k := 1) rfl e30_1 rfl ?_ -- 2.37
  refine hS_new (c := 0) (j := 9) S29 rfl rfl (by decide) rfl rfl (fun h32 S32 => ?_) -- 2.38
  refine hI_dup rfl rfl rfl ?_ -- 2.41
  refine hS_call (j := 3) (q := 9) S32 rfl rfl (by decide +kernel) rfl (by decide) rfl (by decide +kernel) rfl (by show 3 ≤ 8; decide) (by decide +kernel) rfl ?_ -- 2.42
  refine hI_al (k := 0) rfl rfl rfl ?_ -- 3.0
  refine hS_obj (j := 9) rfl rfl ⟨by decide +kernel, by show 0 + 12 ≤ _; decide +kernel, by show 0 ≤ 8; decide⟩ rfl ?_ -- 3.1
  refine hI_al (k := 0) rfl rfl rfl ?_ -- 3.4
  refine hM_bp (n := 40) rfl (by decide) rfl (fun x33 q33 => ?_) -- 3.5
  refine hS_newa (t := .int) (n := 40) (j := 10) S32 rfl (by decide) q33 (by decide) rfl rfl (fun h34 S34 => ?_) -- 3.7
  refine hS_pr (c := 0) (k := 0) (j := 9) (q := 10) S34 rfl rfl (by decide +kernel) (by decide) rfl rfl rfl (fun h35 S35 => ?_) -- 3.9
  refine hI_al (k := 0) rfl rfl rfl ?_ -- 3.12
  refine hM_bp (n := 120) rfl (by decide) rfl (fun x36 q36 => ?_) -- 3.13
  refine hS_newa (t := .int) (n := 120) (j := 11) S35 rfl (by decide) q36 (by decide) rfl rfl (fun h37 S37 => ?_) -- 3.15
  refine hS_pr (c := 0) (k := 1) (j := 9) (q := 11) S37 rfl rfl (by decide +kernel) (by decide) rfl rfl rfl (fun h38 S38 => ?_) -- 3.17
  refine hI_rv rfl rfl ?_ -- 3.20
  show HJ 2 45 lv30 [.ref (16 + h_n h0 + 9), .int x30, .ref (16 + h_n h0 + 2)] h38 Q
  refine hS_aast (n := 2) (j := 2) (q := 9) S38 rfl q30 rfl rfl (by decide) rfl rfl (fun h39 S39 => ?_) -- 2.45
  refine hM_inc (k := 1) (z := 1) rfl e30_1 q30 (by decide) (by decide) (by decide) (by decide +kernel) rfl (fun lv40 x40 q40 e40_1 u40 => ?_) -- 2.46
  have q40 : x40.toInt = 3 := q40
  have e40_0 := u40 0 _ (by decide) (Or.inl rfl) e30_0
  refine hI_go (pc' := 28) (off := (-21)) rfl (by decide) ?_ -- 2.49
  refine hI_il (k := 1) rfl e40_1 rfl ?_ -- 2.28
  refine hM_ic (n := 4) rfl (by decide) rfl (fun x41 q41 => ?_) -- 2.29
  refine hM_cge (t := 52) rfl q40 q41 (by decide) rfl (fun c => absurd c (by decide)) (fun _ => ?_) -- 2.30
  refine hI_al (k := 0) rfl e40_0 rfl ?_ -- 2.33
  refine hS_gr (c := 6) (k := 1) (j := 0) (q := 2) S39 rfl rfl rfl (by decide) rfl rfl (by decide) rfl rfl ?_ -- 2.34
  refine hI_il (k := 1) rfl e40_1 rfl ?_ -- 2.37
  refine hS_new (c := 0) (j := 12) S39 rfl rfl (by decide) rfl rfl (fun h42 S42 => ?_) -- 2.38
  refine hI_dup rfl rfl rfl ?_ -- 2.41
  refine hS_call (j := 3) (q := 12) S42 rfl rfl (by decide +kernel) rfl (by decide) rfl (by decide +kernel) rfl (by show 3 ≤ 8; decide) (by decide +kernel) rfl ?_ -- 2.42
  refine hI_al (k := 0) rfl rfl rfl ?_ -- 3.0
  refine hS_obj (j := 12) rfl rfl ⟨by decide +kernel, by show 0 + 12 ≤ _; decide +kernel, by show 0 ≤ 8; decide⟩ rfl ?_ -- 3.1
  refine hI_al (k := 0) rfl rfl rfl ?_ -- 3.4
  refine hM_bp (n := 40) rfl (by decide) rfl (fun x43 q43 => ?_) -- 3.5
  refine hS_newa (t := .int) (n := 40) (j := 13) S42 rfl (by decide) q43 (by decide) rfl rfl (fun h44 S44 => ?_) -- 3.7
  refine hS_pr (c := 0) (k := 0) (j := 12) (q := 13) S44 rfl rfl (by decide +kernel) (by decide) rfl rfl rfl (fun h45 S45 => ?_) -- 3.9
  refine hI_al (k := 0) rfl rfl rfl ?_ -- 3.12
  refine hM_bp (n := 120) rfl (by decide) rfl (fun x46 q46 => ?_) -- 3.13
  refine hS_newa (t := .int) (n := 120) (j := 14) S45 rfl (by decide) q46 (by decide) rfl rfl (fun h47 S47 => ?_) -- 3.15
  refine hS_pr (c := 0) (k := 1) (j := 12) (q := 14) S47 rfl rfl (by decide +kernel) (by decide) rfl rfl rfl (fun h48 S48 => ?_) -- 3.17
  refine hI_rv rfl rfl ?_ -- 3.20
  show HJ 2 45 lv40 [.ref (16 + h_n h0 + 12), .int x40, .ref (16 + h_n h0 + 2)] h48 Q
  refine hS_aast (n := 3) (j := 2) (q := 12) S48 rfl q40 rfl rfl (by decide) rfl rfl (fun h49 S49 => ?_) -- 2.45
  refine hM_inc (k := 1) (z := 1) rfl e40_1 q40 (by decide) (by decide) (by decide) (by decide +kernel) rfl (fun lv50 x50 q50 e50_1 u50 => ?_) -- 2.46
  have q50 : x50.toInt = 4 := q50
  have e50_0 := u50 0 _ (by decide) (Or.inl rfl) e40_0
  refine hI_go (pc' := 28) (off := (-21)) rfl (by decide) ?_ -- 2.49
  refine hI_il (k := 1) rfl e50_1 rfl ?_ -- 2.28
  refine hM_ic (n := 4) rfl (by decide) rfl (fun x51 q51 => ?_) -- 2.29
  refine hM_cge (t := 52) rfl q50 q51 (by decide) rfl (fun _ => ?_) (fun c => absurd c (by decide)) -- 2.30
  refine hI_rv rfl rfl ?_ -- 2.52
  exact g h49 (sx_eq S49 (by decide +kernel))
