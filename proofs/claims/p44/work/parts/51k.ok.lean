theorem okn_10 : okN 250 25 = true := by decide +kernel
