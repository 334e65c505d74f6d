theorem okn_1 : okN 25 25 = true := by decide +kernel
