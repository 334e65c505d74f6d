theorem okn_2 : okN 50 25 = true := by decide +kernel
