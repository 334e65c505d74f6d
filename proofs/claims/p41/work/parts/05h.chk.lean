theorem okLaw_0 : okC (pgB 274) (((pgCd 274).drop 0).take 16) = true := by decide +kernel
theorem okLaw_1 : okC (pgB 274) (((pgCd 274).drop 16).take 16) = true := by decide +kernel
theorem okLaw_2 : okC (pgB 274) (((pgCd 274).drop 32).take 16) = true := by decide +kernel
theorem okLaw_3 : okC (pgB 274) (((pgCd 274).drop 48).take 16) = true := by decide +kernel
theorem okLaw_4 : okC (pgB 274) (((pgCd 274).drop 64).take 16) = true := by decide +kernel
theorem okLaw_5 : okC (pgB 274) (((pgCd 274).drop 80).take 16) = true := by decide +kernel
theorem okLaw_6 : okC (pgB 274) (((pgCd 274).drop 96).take 16) = true := by decide +kernel
theorem okLaw_7 : okC (pgB 274) (((pgCd 274).drop 112).take 16) = true := by decide +kernel
