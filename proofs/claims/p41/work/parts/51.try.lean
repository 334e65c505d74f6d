theorem okt : okY 137 = true := by decide +kernel
