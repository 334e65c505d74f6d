theorem okn_8 : okN 200 25 = true := by decide +kernel
