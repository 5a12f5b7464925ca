-- the runs with ranges, a row for each kind of call
theorem b_k10 : b_two (10, 10) 3000 2 b_l1 [b_t] = true := by decide +kernel
theorem b_k11 : b_two (11, 11) 3000 2 b_l1 [b_t] = true := by decide +kernel
theorem b_k12 : b_two (12, 12) 3000 2 b_l1 [b_t] = true := by decide +kernel
theorem b_k13 : b_two (13, 13) 3000 2 b_l1 [b_t] = true := by decide +kernel
theorem b_k14 : b_two (14, 14) 3000 4 b_l1 b_l2 = true := by decide +kernel
theorem b_k15 : b_two (15, 15) 3000 2 b_l1 [b_t] = true := by decide +kernel
theorem b_k16 : b_two (16, 16) 3000 4 b_l1 b_l2 = true := by decide +kernel
theorem b_k17 : b_two (17, 17) 3000 2 b_l1 [b_t] = true := by decide +kernel
theorem b_k18 : b_two (18, 18) 3000 2 b_l1 [b_t] = true := by decide +kernel
theorem b_k19 : b_two (19, 19) 3000 2 b_l1 [b_t] = true := by decide +kernel
