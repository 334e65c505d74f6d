theorem okn_9 : okN 225 25 = true := by decide +kernel
