-- an image, its number within one range
theorem b_k35_4 : b_ok (35, 35) 60000 7 (b_mk (3, 2147483647) 2 b_t) = true := by decide +kernel
