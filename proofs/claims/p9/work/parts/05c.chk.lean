theorem okS_71_0 : okC (pgB 71) (((pgCd 71).drop 0).take 4) = true := by decide +kernel
theorem okS_71_1 : okC (pgB 71) (((pgCd 71).drop 4).take 4) = true := by decide +kernel
theorem okS_71_2 : okC (pgB 71) (((pgCd 71).drop 8).take 4) = true := by decide +kernel
theorem okM_71 : okM (pgRw 71) = true := by decide +kernel
theorem okCd_71 : okC (pgB 71) (pgCd 71) = true := by
  have hz : okC (pgB 71) ((pgCd 71).drop 12) = true := by decide +kernel
  have hz : okC (pgB 71) ((pgCd 71).drop 8) = true := okC_cat _ 4 8 _ okS_71_2 hz
  have hz : okC (pgB 71) ((pgCd 71).drop 4) = true := okC_cat _ 4 4 _ okS_71_1 hz
  have hz : okC (pgB 71) ((pgCd 71).drop 0) = true := okC_cat _ 4 0 _ okS_71_0 hz
  exact hz
theorem okMid_71 : okMid 71 = true := by unfold okMid; rw [okCd_71, okM_71]; rfl
theorem okS_72_0 : okC (pgB 72) (((pgCd 72).drop 0).take 4) = true := by decide +kernel
theorem okS_72_1 : okC (pgB 72) (((pgCd 72).drop 4).take 4) = true := by decide +kernel
theorem okS_72_2 : okC (pgB 72) (((pgCd 72).drop 8).take 1) = true := by decide +kernel
theorem okM_72 : okM (pgRw 72) = true := by decide +kernel
theorem okCd_72 : okC (pgB 72) (pgCd 72) = true := by
  have hz : okC (pgB 72) ((pgCd 72).drop 9) = true := by decide +kernel
  have hz : okC (pgB 72) ((pgCd 72).drop 8) = true := okC_cat _ 1 8 _ okS_72_2 hz
  have hz : okC (pgB 72) ((pgCd 72).drop 4) = true := okC_cat _ 4 4 _ okS_72_1 hz
  have hz : okC (pgB 72) ((pgCd 72).drop 0) = true := okC_cat _ 4 0 _ okS_72_0 hz
  exact hz
theorem okMid_72 : okMid 72 = true := by unfold okMid; rw [okCd_72, okM_72]; rfl
theorem okMid_73 : okMid 73 = true := by decide +kernel
theorem okMid_74 : okMid 74 = true := by decide +kernel
theorem okS_75_0 : okC (pgB 75) (((pgCd 75).drop 0).take 4) = true := by decide +kernel
theorem okS_75_1 : okC (pgB 75) (((pgCd 75).drop 4).take 4) = true := by decide +kernel
theorem okS_75_2 : okC (pgB 75) (((pgCd 75).drop 8).take 1) = true := by decide +kernel
theorem okM_75 : okM (pgRw 75) = true := by decide +kernel
theorem okCd_75 : okC (pgB 75) (pgCd 75) = true := by
  have hz : okC (pgB 75) ((pgCd 75).drop 9) = true := by decide +kernel
  have hz : okC (pgB 75) ((pgCd 75).drop 8) = true := okC_cat _ 1 8 _ okS_75_2 hz
  have hz : okC (pgB 75) ((pgCd 75).drop 4) = true := okC_cat _ 4 4 _ okS_75_1 hz
  have hz : okC (pgB 75) ((pgCd 75).drop 0) = true := okC_cat _ 4 0 _ okS_75_0 hz
  exact hz
theorem okMid_75 : okMid 75 = true := by unfold okMid; rw [okCd_75, okM_75]; rfl
theorem okMid_76 : okMid 76 = true := by decide +kernel
theorem okS_77_0 : okC (pgB 77) (((pgCd 77).drop 0).take 4) = true := by decide +kernel
theorem okS_77_1 : okC (pgB 77) (((pgCd 77).drop 4).take 4) = true := by decide +kernel
theorem okS_77_2 : okC (pgB 77) (((pgCd 77).drop 8).take 4) = true := by decide +kernel
theorem okS_77_3 : okC (pgB 77) (((pgCd 77).drop 12).take 4) = true := by decide +kernel
theorem okS_77_4 : okC (pgB 77) (((pgCd 77).drop 16).take 4) = true := by decide +kernel
theorem okS_77_5 : okC (pgB 77) (((pgCd 77).drop 20).take 4) = true := by decide +kernel
theorem okS_77_6 : okC (pgB 77) (((pgCd 77).drop 24).take 1) = true := by decide +kernel
theorem okM_77 : okM (pgRw 77) = true := by decide +kernel
theorem okCd_77 : okC (pgB 77) (pgCd 77) = true := by
  have hz : okC (pgB 77) ((pgCd 77).drop 25) = true := by decide +kernel
  have hz : okC (pgB 77) ((pgCd 77).drop 24) = true := okC_cat _ 1 24 _ okS_77_6 hz
  have hz : okC (pgB 77) ((pgCd 77).drop 20) = true := okC_cat _ 4 20 _ okS_77_5 hz
  have hz : okC (pgB 77) ((pgCd 77).drop 16) = true := okC_cat _ 4 16 _ okS_77_4 hz
  have hz : okC (pgB 77) ((pgCd 77).drop 12) = true := okC_cat _ 4 12 _ okS_77_3 hz
  have hz : okC (pgB 77) ((pgCd 77).drop 8) = true := okC_cat _ 4 8 _ okS_77_2 hz
  have hz : okC (pgB 77) ((pgCd 77).drop 4) = true := okC_cat _ 4 4 _ okS_77_1 hz
  have hz : okC (pgB 77) ((pgCd 77).drop 0) = true := okC_cat _ 4 0 _ okS_77_0 hz
  exact hz
theorem okMid_77 : okMid 77 = true := by unfold okMid; rw [okCd_77, okM_77]; rfl
theorem okS_78_0 : okC (pgB 78) (((pgCd 78).drop 0).take 4) = true := by decide +kernel
theorem okS_78_1 : okC (pgB 78) (((pgCd 78).drop 4).take 4) = true := by decide +kernel
theorem okS_78_2 : okC (pgB 78) (((pgCd 78).drop 8).take 2) = true := by decide +kernel
theorem okM_78 : okM (pgRw 78) = true := by decide +kernel
theorem okCd_78 : okC (pgB 78) (pgCd 78) = true := by
  have hz : okC (pgB 78) ((pgCd 78).drop 10) = true := by decide +kernel
  have hz : okC (pgB 78) ((pgCd 78).drop 8) = true := okC_cat _ 2 8 _ okS_78_2 hz
  have hz : okC (pgB 78) ((pgCd 78).drop 4) = true := okC_cat _ 4 4 _ okS_78_1 hz
  have hz : okC (pgB 78) ((pgCd 78).drop 0) = true := okC_cat _ 4 0 _ okS_78_0 hz
  exact hz
theorem okMid_78 : okMid 78 = true := by unfold okMid; rw [okCd_78, okM_78]; rfl
theorem okMid_79 : okMid 79 = true := by decide +kernel
theorem okMid_80 : okMid 80 = true := by decide +kernel
theorem okS_81_0 : okC (pgB 81) (((pgCd 81).drop 0).take 4) = true := by decide +kernel
theorem okS_81_1 : okC (pgB 81) (((pgCd 81).drop 4).take 4) = true := by decide +kernel
theorem okM_81 : okM (pgRw 81) = true := by decide +kernel
theorem okCd_81 : okC (pgB 81) (pgCd 81) = true := by
  have hz : okC (pgB 81) ((pgCd 81).drop 8) = true := by decide +kernel
  have hz : okC (pgB 81) ((pgCd 81).drop 4) = true := okC_cat _ 4 4 _ okS_81_1 hz
  have hz : okC (pgB 81) ((pgCd 81).drop 0) = true := okC_cat _ 4 0 _ okS_81_0 hz
  exact hz
theorem okMid_81 : okMid 81 = true := by unfold okMid; rw [okCd_81, okM_81]; rfl
theorem okS_82_0 : okC (pgB 82) (((pgCd 82).drop 0).take 4) = true := by decide +kernel
theorem okS_82_1 : okC (pgB 82) (((pgCd 82).drop 4).take 4) = true := by decide +kernel
theorem okS_82_2 : okC (pgB 82) (((pgCd 82).drop 8).take 4) = true := by decide +kernel
theorem okM_82 : okM (pgRw 82) = true := by decide +kernel
theorem okCd_82 : okC (pgB 82) (pgCd 82) = true := by
  have hz : okC (pgB 82) ((pgCd 82).drop 12) = true := by decide +kernel
  have hz : okC (pgB 82) ((pgCd 82).drop 8) = true := okC_cat _ 4 8 _ okS_82_2 hz
  have hz : okC (pgB 82) ((pgCd 82).drop 4) = true := okC_cat _ 4 4 _ okS_82_1 hz
  have hz : okC (pgB 82) ((pgCd 82).drop 0) = true := okC_cat _ 4 0 _ okS_82_0 hz
  exact hz
theorem okMid_82 : okMid 82 = true := by unfold okMid; rw [okCd_82, okM_82]; rfl
theorem okMid_83 : okMid 83 = true := by decide +kernel
theorem okMid_84 : okMid 84 = true := by decide +kernel
theorem okMid_85 : okMid 85 = true := by decide +kernel
theorem okS_86_0 : okC (pgB 86) (((pgCd 86).drop 0).take 4) = true := by decide +kernel
theorem okS_86_1 : okC (pgB 86) (((pgCd 86).drop 4).take 4) = true := by decide +kernel
theorem okS_86_2 : okC (pgB 86) (((pgCd 86).drop 8).take 4) = true := by decide +kernel
theorem okS_86_3 : okC (pgB 86) (((pgCd 86).drop 12).take 1) = true := by decide +kernel
theorem okM_86 : okM (pgRw 86) = true := by decide +kernel
theorem okCd_86 : okC (pgB 86) (pgCd 86) = true := by
  have hz : okC (pgB 86) ((pgCd 86).drop 13) = true := by decide +kernel
  have hz : okC (pgB 86) ((pgCd 86).drop 12) = true := okC_cat _ 1 12 _ okS_86_3 hz
  have hz : okC (pgB 86) ((pgCd 86).drop 8) = true := okC_cat _ 4 8 _ okS_86_2 hz
  have hz : okC (pgB 86) ((pgCd 86).drop 4) = true := okC_cat _ 4 4 _ okS_86_1 hz
  have hz : okC (pgB 86) ((pgCd 86).drop 0) = true := okC_cat _ 4 0 _ okS_86_0 hz
  exact hz
theorem okMid_86 : okMid 86 = true := by unfold okMid; rw [okCd_86, okM_86]; rfl
theorem okS_87_0 : okC (pgB 87) (((pgCd 87).drop 0).take 4) = true := by decide +kernel
theorem okS_87_1 : okC (pgB 87) (((pgCd 87).drop 4).take 4) = true := by decide +kernel
theorem okS_87_2 : okC (pgB 87) (((pgCd 87).drop 8).take 4) = true := by decide +kernel
theorem okS_87_3 : okC (pgB 87) (((pgCd 87).drop 12).take 4) = true := by decide +kernel
theorem okM_87 : okM (pgRw 87) = true := by decide +kernel
theorem okCd_87 : okC (pgB 87) (pgCd 87) = true := by
  have hz : okC (pgB 87) ((pgCd 87).drop 16) = true := by decide +kernel
  have hz : okC (pgB 87) ((pgCd 87).drop 12) = true := okC_cat _ 4 12 _ okS_87_3 hz
  have hz : okC (pgB 87) ((pgCd 87).drop 8) = true := okC_cat _ 4 8 _ okS_87_2 hz
  have hz : okC (pgB 87) ((pgCd 87).drop 4) = true := okC_cat _ 4 4 _ okS_87_1 hz
  have hz : okC (pgB 87) ((pgCd 87).drop 0) = true := okC_cat _ 4 0 _ okS_87_0 hz
  exact hz
theorem okMid_87 : okMid 87 = true := by unfold okMid; rw [okCd_87, okM_87]; rfl
theorem okS_88_0 : okC (pgB 88) (((pgCd 88).drop 0).take 4) = true := by decide +kernel
theorem okS_88_1 : okC (pgB 88) (((pgCd 88).drop 4).take 4) = true := by decide +kernel
theorem okS_88_2 : okC (pgB 88) (((pgCd 88).drop 8).take 4) = true := by decide +kernel
theorem okS_88_3 : okC (pgB 88) (((pgCd 88).drop 12).take 4) = true := by decide +kernel
theorem okS_88_4 : okC (pgB 88) (((pgCd 88).drop 16).take 4) = true := by decide +kernel
theorem okS_88_5 : okC (pgB 88) (((pgCd 88).drop 20).take 3) = true := by decide +kernel
theorem okM_88 : okM (pgRw 88) = true := by decide +kernel
theorem okCd_88 : okC (pgB 88) (pgCd 88) = true := by
  have hz : okC (pgB 88) ((pgCd 88).drop 23) = true := by decide +kernel
  have hz : okC (pgB 88) ((pgCd 88).drop 20) = true := okC_cat _ 3 20 _ okS_88_5 hz
  have hz : okC (pgB 88) ((pgCd 88).drop 16) = true := okC_cat _ 4 16 _ okS_88_4 hz
  have hz : okC (pgB 88) ((pgCd 88).drop 12) = true := okC_cat _ 4 12 _ okS_88_3 hz
  have hz : okC (pgB 88) ((pgCd 88).drop 8) = true := okC_cat _ 4 8 _ okS_88_2 hz
  have hz : okC (pgB 88) ((pgCd 88).drop 4) = true := okC_cat _ 4 4 _ okS_88_1 hz
  have hz : okC (pgB 88) ((pgCd 88).drop 0) = true := okC_cat _ 4 0 _ okS_88_0 hz
  exact hz
theorem okMid_88 : okMid 88 = true := by unfold okMid; rw [okCd_88, okM_88]; rfl
theorem okS_89_0 : okC (pgB 89) (((pgCd 89).drop 0).take 4) = true := by decide +kernel
theorem okS_89_1 : okC (pgB 89) (((pgCd 89).drop 4).take 4) = true := by decide +kernel
theorem okM_89 : okM (pgRw 89) = true := by decide +kernel
theorem okCd_89 : okC (pgB 89) (pgCd 89) = true := by
  have hz : okC (pgB 89) ((pgCd 89).drop 8) = true := by decide +kernel
  have hz : okC (pgB 89) ((pgCd 89).drop 4) = true := okC_cat _ 4 4 _ okS_89_1 hz
  have hz : okC (pgB 89) ((pgCd 89).drop 0) = true := okC_cat _ 4 0 _ okS_89_0 hz
  exact hz
theorem okMid_89 : okMid 89 = true := by unfold okMid; rw [okCd_89, okM_89]; rfl
theorem okS_90_0 : okC (pgB 90) (((pgCd 90).drop 0).take 4) = true := by decide +kernel
theorem okS_90_1 : okC (pgB 90) (((pgCd 90).drop 4).take 4) = true := by decide +kernel
theorem okM_90 : okM (pgRw 90) = true := by decide +kernel
theorem okCd_90 : okC (pgB 90) (pgCd 90) = true := by
  have hz : okC (pgB 90) ((pgCd 90).drop 8) = true := by decide +kernel
  have hz : okC (pgB 90) ((pgCd 90).drop 4) = true := okC_cat _ 4 4 _ okS_90_1 hz
  have hz : okC (pgB 90) ((pgCd 90).drop 0) = true := okC_cat _ 4 0 _ okS_90_0 hz
  exact hz
theorem okMid_90 : okMid 90 = true := by unfold okMid; rw [okCd_90, okM_90]; rfl
theorem okMid_91 : okMid 91 = true := by decide +kernel
theorem okS_92_0 : okC (pgB 92) (((pgCd 92).drop 0).take 4) = true := by decide +kernel
theorem okS_92_1 : okC (pgB 92) (((pgCd 92).drop 4).take 4) = true := by decide +kernel
theorem okS_92_2 : okC (pgB 92) (((pgCd 92).drop 8).take 4) = true := by decide +kernel
theorem okS_92_3 : okC (pgB 92) (((pgCd 92).drop 12).take 4) = true := by decide +kernel
theorem okS_92_4 : okC (pgB 92) (((pgCd 92).drop 16).take 4) = true := by decide +kernel
theorem okS_92_5 : okC (pgB 92) (((pgCd 92).drop 20).take 4) = true := by decide +kernel
theorem okM_92 : okM (pgRw 92) = true := by decide +kernel
theorem okCd_92 : okC (pgB 92) (pgCd 92) = true := by
  have hz : okC (pgB 92) ((pgCd 92).drop 24) = true := by decide +kernel
  have hz : okC (pgB 92) ((pgCd 92).drop 20) = true := okC_cat _ 4 20 _ okS_92_5 hz
  have hz : okC (pgB 92) ((pgCd 92).drop 16) = true := okC_cat _ 4 16 _ okS_92_4 hz
  have hz : okC (pgB 92) ((pgCd 92).drop 12) = true := okC_cat _ 4 12 _ okS_92_3 hz
  have hz : okC (pgB 92) ((pgCd 92).drop 8) = true := okC_cat _ 4 8 _ okS_92_2 hz
  have hz : okC (pgB 92) ((pgCd 92).drop 4) = true := okC_cat _ 4 4 _ okS_92_1 hz
  have hz : okC (pgB 92) ((pgCd 92).drop 0) = true := okC_cat _ 4 0 _ okS_92_0 hz
  exact hz
theorem okMid_92 : okMid 92 = true := by unfold okMid; rw [okCd_92, okM_92]; rfl
theorem okS_93_0 : okC (pgB 93) (((pgCd 93).drop 0).take 4) = true := by decide +kernel
theorem okS_93_1 : okC (pgB 93) (((pgCd 93).drop 4).take 4) = true := by decide +kernel
theorem okS_93_2 : okC (pgB 93) (((pgCd 93).drop 8).take 3) = true := by decide +kernel
theorem okM_93 : okM (pgRw 93) = true := by decide +kernel
theorem okCd_93 : okC (pgB 93) (pgCd 93) = true := by
  have hz : okC (pgB 93) ((pgCd 93).drop 11) = true := by decide +kernel
  have hz : okC (pgB 93) ((pgCd 93).drop 8) = true := okC_cat _ 3 8 _ okS_93_2 hz
  have hz : okC (pgB 93) ((pgCd 93).drop 4) = true := okC_cat _ 4 4 _ okS_93_1 hz
  have hz : okC (pgB 93) ((pgCd 93).drop 0) = true := okC_cat _ 4 0 _ okS_93_0 hz
  exact hz
theorem okMid_93 : okMid 93 = true := by unfold okMid; rw [okCd_93, okM_93]; rfl
theorem okMid_94 : okMid 94 = true := by decide +kernel
theorem okS_95_0 : okC (pgB 95) (((pgCd 95).drop 0).take 4) = true := by decide +kernel
theorem okS_95_1 : okC (pgB 95) (((pgCd 95).drop 4).take 4) = true := by decide +kernel
theorem okS_95_2 : okC (pgB 95) (((pgCd 95).drop 8).take 4) = true := by decide +kernel
theorem okS_95_3 : okC (pgB 95) (((pgCd 95).drop 12).take 3) = true := by decide +kernel
theorem okM_95 : okM (pgRw 95) = true := by decide +kernel
theorem okCd_95 : okC (pgB 95) (pgCd 95) = true := by
  have hz : okC (pgB 95) ((pgCd 95).drop 15) = true := by decide +kernel
  have hz : okC (pgB 95) ((pgCd 95).drop 12) = true := okC_cat _ 3 12 _ okS_95_3 hz
  have hz : okC (pgB 95) ((pgCd 95).drop 8) = true := okC_cat _ 4 8 _ okS_95_2 hz
  have hz : okC (pgB 95) ((pgCd 95).drop 4) = true := okC_cat _ 4 4 _ okS_95_1 hz
  have hz : okC (pgB 95) ((pgCd 95).drop 0) = true := okC_cat _ 4 0 _ okS_95_0 hz
  exact hz
theorem okMid_95 : okMid 95 = true := by unfold okMid; rw [okCd_95, okM_95]; rfl
theorem okS_96_0 : okC (pgB 96) (((pgCd 96).drop 0).take 4) = true := by decide +kernel
theorem okS_96_1 : okC (pgB 96) (((pgCd 96).drop 4).take 4) = true := by decide +kernel
theorem okM_96 : okM (pgRw 96) = true := by decide +kernel
theorem okCd_96 : okC (pgB 96) (pgCd 96) = true := by
  have hz : okC (pgB 96) ((pgCd 96).drop 8) = true := by decide +kernel
  have hz : okC (pgB 96) ((pgCd 96).drop 4) = true := okC_cat _ 4 4 _ okS_96_1 hz
  have hz : okC (pgB 96) ((pgCd 96).drop 0) = true := okC_cat _ 4 0 _ okS_96_0 hz
  exact hz
theorem okMid_96 : okMid 96 = true := by unfold okMid; rw [okCd_96, okM_96]; rfl
theorem okS_97_0 : okC (pgB 97) (((pgCd 97).drop 0).take 4) = true := by decide +kernel
theorem okS_97_1 : okC (pgB 97) (((pgCd 97).drop 4).take 4) = true := by decide +kernel
theorem okS_97_2 : okC (pgB 97) (((pgCd 97).drop 8).take 4) = true := by decide +kernel
theorem okS_97_3 : okC (pgB 97) (((pgCd 97).drop 12).take 4) = true := by decide +kernel
theorem okS_97_4 : okC (pgB 97) (((pgCd 97).drop 16).take 4) = true := by decide +kernel
theorem okM_97 : okM (pgRw 97) = true := by decide +kernel
theorem okCd_97 : okC (pgB 97) (pgCd 97) = true := by
  have hz : okC (pgB 97) ((pgCd 97).drop 20) = true := by decide +kernel
  have hz : okC (pgB 97) ((pgCd 97).drop 16) = true := okC_cat _ 4 16 _ okS_97_4 hz
  have hz : okC (pgB 97) ((pgCd 97).drop 12) = true := okC_cat _ 4 12 _ okS_97_3 hz
  have hz : okC (pgB 97) ((pgCd 97).drop 8) = true := okC_cat _ 4 8 _ okS_97_2 hz
  have hz : okC (pgB 97) ((pgCd 97).drop 4) = true := okC_cat _ 4 4 _ okS_97_1 hz
  have hz : okC (pgB 97) ((pgCd 97).drop 0) = true := okC_cat _ 4 0 _ okS_97_0 hz
  exact hz
theorem okMid_97 : okMid 97 = true := by unfold okMid; rw [okCd_97, okM_97]; rfl
theorem okMid_98 : okMid 98 = true := by decide +kernel
theorem okMid_99 : okMid 99 = true := by decide +kernel
theorem okMid_100 : okMid 100 = true := by decide +kernel
theorem okMid_101 : okMid 101 = true := by decide +kernel
theorem okMid_102 : okMid 102 = true := by decide +kernel
theorem okMid_103 : okMid 103 = true := by decide +kernel
theorem okS_104_0 : okC (pgB 104) (((pgCd 104).drop 0).take 4) = true := by decide +kernel
theorem okS_104_1 : okC (pgB 104) (((pgCd 104).drop 4).take 4) = true := by decide +kernel
theorem okM_104 : okM (pgRw 104) = true := by decide +kernel
theorem okCd_104 : okC (pgB 104) (pgCd 104) = true := by
  have hz : okC (pgB 104) ((pgCd 104).drop 8) = true := by decide +kernel
  have hz : okC (pgB 104) ((pgCd 104).drop 4) = true := okC_cat _ 4 4 _ okS_104_1 hz
  have hz : okC (pgB 104) ((pgCd 104).drop 0) = true := okC_cat _ 4 0 _ okS_104_0 hz
  exact hz
theorem okMid_104 : okMid 104 = true := by unfold okMid; rw [okCd_104, okM_104]; rfl
