-- the runs with ranges, a row for each kind of call
theorem b_short : ([0, 1, 2, 3, 4, 5, 6].all (fun L => b_ok (0, 63) 3000 L [])) = true := by decide +kernel
theorem b_k0 : b_two (0, 0) 3000 2 [b_t] [b_t] = true := by decide +kernel
theorem b_k1 : b_two (1, 1) 3000 2 b_l2 [b_t] = true := by decide +kernel
theorem b_k2 : b_two (2, 2) 3000 2 b_l3 [b_t] = true := by decide +kernel
theorem b_k3 : b_two (3, 3) 3000 2 b_l4 [b_t] = true := by decide +kernel
theorem b_k4 : b_two (4, 4) 3000 2 b_l1 [b_t] = true := by decide +kernel
theorem b_k5 : b_two (5, 5) 3000 2 b_l1 [b_t] = true := by decide +kernel
theorem b_k6 : b_two (6, 6) 3000 2 b_l1 [b_t] = true := by decide +kernel
theorem b_k7 : b_two (7, 7) 3000 2 b_l1 b_l2 = true := by decide +kernel
theorem b_k8 : b_two (8, 8) 3000 2 b_l1 [b_t] = true := by decide +kernel
theorem b_k9 : b_two (9, 9) 3000 4 b_l1 b_l2 = true := by decide +kernel
