theorem okn_4 : okN 100 25 = true := by decide +kernel
