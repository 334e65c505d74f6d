theorem okn_7 : okN 175 25 = true := by decide +kernel
