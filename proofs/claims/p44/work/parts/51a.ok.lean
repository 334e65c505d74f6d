theorem okn_0 : okN 0 25 = true := by decide +kernel
