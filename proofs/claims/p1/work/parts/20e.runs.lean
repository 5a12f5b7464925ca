-- the runs with ranges, a row for each kind of call
theorem b_k30 : b_two (30, 30) 3000 4 b_l1 b_l2 = true := by decide +kernel
theorem b_k31 : b_two (31, 31) 3000 3 b_l1 b_l2 = true := by decide +kernel
theorem b_k32 : b_two (32, 32) 3000 2 b_l1 [b_t] = true := by decide +kernel
theorem b_k33 : b_two (33, 33) 3000 2 b_l1 [b_t] = true := by decide +kernel
theorem b_k34 : b_two (34, 34) 3000 2 [b_t] [b_t] = true := by decide +kernel
theorem b_k36 : b_two (36, 36) 3000 2 b_l5 [b_t] = true := by decide +kernel
theorem b_k37 : b_two (37, 63) 3000 2 [b_t] [b_t] = true := by decide +kernel
