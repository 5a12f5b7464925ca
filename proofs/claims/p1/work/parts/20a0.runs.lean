-- an image, its number within one range
theorem b_k35_0 : b_ok (35, 35) 60000 7 (b_mk (-2147483648, -1) 2 b_t) = true := by decide +kernel
