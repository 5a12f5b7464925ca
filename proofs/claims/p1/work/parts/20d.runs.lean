-- the runs with ranges, a row for each kind of call
theorem b_k20 : b_two (20, 20) 3000 4 b_l1 b_l2 = true := by decide +kernel
theorem b_k21 : b_two (21, 21) 3000 6 b_l1 b_l2 = true := by decide +kernel
theorem b_k22 : b_two (22, 22) 3000 2 b_l1 [b_t] = true := by decide +kernel
theorem b_k23 : b_two (23, 23) 3000 2 b_l1 b_l2 = true := by decide +kernel
theorem b_k24 : b_two (24, 24) 3000 2 b_l1 [b_t] = true := by decide +kernel
theorem b_k25 : b_two (25, 25) 3000 3 b_l1 b_l2 = true := by decide +kernel
theorem b_k26 : b_two (26, 26) 3000 2 b_l1 [b_t] = true := by decide +kernel
theorem b_k27 : b_two (27, 27) 3000 2 b_l1 [b_t] = true := by decide +kernel
theorem b_k28 : b_two (28, 28) 3000 2 b_l1 [b_t] = true := by decide +kernel
theorem b_k29 : b_two (29, 29) 3000 4 b_l1 b_l2 = true := by decide +kernel
