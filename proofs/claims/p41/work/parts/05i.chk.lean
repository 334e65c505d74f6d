theorem okLaw_8 : okC (pgB 274) (((pgCd 274).drop 128).take 16) = true := by decide +kernel
theorem okLaw_9 : okC (pgB 274) (((pgCd 274).drop 144).take 16) = true := by decide +kernel
theorem okLaw_10 : okC (pgB 274) (((pgCd 274).drop 160).take 16) = true := by decide +kernel
theorem okLaw_11 : okC (pgB 274) (((pgCd 274).drop 176).take 16) = true := by decide +kernel
theorem okLaw_12 : okC (pgB 274) (((pgCd 274).drop 192).take 16) = true := by decide +kernel
theorem okLaw_13 : okC (pgB 274) (((pgCd 274).drop 208).take 16) = true := by decide +kernel
theorem okLaw_14 : okC (pgB 274) (((pgCd 274).drop 224).take 15) = true := by decide +kernel
