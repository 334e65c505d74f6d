theorem okn_6 : okN 150 25 = true := by decide +kernel
