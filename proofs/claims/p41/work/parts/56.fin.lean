theorem l_s18_t : l_s18 = true := by decide +kernel
theorem lk_t : lk zZ zT 3000 27 [] (0, 0) = true := by decide +kernel
