theorem okn_3 : okN 75 25 = true := by decide +kernel
