theorem okn_5 : okN 125 25 = true := by decide +kernel
