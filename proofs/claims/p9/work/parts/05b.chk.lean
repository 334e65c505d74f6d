theorem okS_35_0 : okC (pgB 35) (((pgCd 35).drop 0).take 4) = true := by decide +kernel
theorem okS_35_1 : okC (pgB 35) (((pgCd 35).drop 4).take 4) = true := by decide +kernel
theorem okS_35_2 : okC (pgB 35) (((pgCd 35).drop 8).take 1) = true := by decide +kernel
theorem okM_35 : okM (pgRw 35) = true := by decide +kernel
theorem okCd_35 : okC (pgB 35) (pgCd 35) = true := by
  have hz : okC (pgB 35) ((pgCd 35).drop 9) = true := by decide +kernel
  have hz : okC (pgB 35) ((pgCd 35).drop 8) = true := okC_cat _ 1 8 _ okS_35_2 hz
  have hz : okC (pgB 35) ((pgCd 35).drop 4) = true := okC_cat _ 4 4 _ okS_35_1 hz
  have hz : okC (pgB 35) ((pgCd 35).drop 0) = true := okC_cat _ 4 0 _ okS_35_0 hz
  exact hz
theorem okMid_35 : okMid 35 = true := by unfold okMid; rw [okCd_35, okM_35]; rfl
theorem okMid_36 : okMid 36 = true := by decide +kernel
theorem okMid_37 : okMid 37 = true := by decide +kernel
theorem okMid_38 : okMid 38 = true := by decide +kernel
theorem okS_39_0 : okC (pgB 39) (((pgCd 39).drop 0).take 4) = true := by decide +kernel
theorem okS_39_1 : okC (pgB 39) (((pgCd 39).drop 4).take 4) = true := by decide +kernel
theorem okS_39_2 : okC (pgB 39) (((pgCd 39).drop 8).take 4) = true := by decide +kernel
theorem okS_39_3 : okC (pgB 39) (((pgCd 39).drop 12).take 4) = true := by decide +kernel
theorem okS_39_4 : okC (pgB 39) (((pgCd 39).drop 16).take 4) = true := by decide +kernel
theorem okS_39_5 : okC (pgB 39) (((pgCd 39).drop 20).take 4) = true := by decide +kernel
theorem okS_39_6 : okC (pgB 39) (((pgCd 39).drop 24).take 4) = true := by decide +kernel
theorem okS_39_7 : okC (pgB 39) (((pgCd 39).drop 28).take 4) = true := by decide +kernel
theorem okS_39_8 : okC (pgB 39) (((pgCd 39).drop 32).take 4) = true := by decide +kernel
theorem okS_39_9 : okC (pgB 39) (((pgCd 39).drop 36).take 4) = true := by decide +kernel
theorem okS_39_10 : okC (pgB 39) (((pgCd 39).drop 40).take 4) = true := by decide +kernel
theorem okS_39_11 : okC (pgB 39) (((pgCd 39).drop 44).take 2) = true := by decide +kernel
theorem okM_39 : okM (pgRw 39) = true := by decide +kernel
theorem okCd_39 : okC (pgB 39) (pgCd 39) = true := by
  have hz : okC (pgB 39) ((pgCd 39).drop 46) = true := by decide +kernel
  have hz : okC (pgB 39) ((pgCd 39).drop 44) = true := okC_cat _ 2 44 _ okS_39_11 hz
  have hz : okC (pgB 39) ((pgCd 39).drop 40) = true := okC_cat _ 4 40 _ okS_39_10 hz
  have hz : okC (pgB 39) ((pgCd 39).drop 36) = true := okC_cat _ 4 36 _ okS_39_9 hz
  have hz : okC (pgB 39) ((pgCd 39).drop 32) = true := okC_cat _ 4 32 _ okS_39_8 hz
  have hz : okC (pgB 39) ((pgCd 39).drop 28) = true := okC_cat _ 4 28 _ okS_39_7 hz
  have hz : okC (pgB 39) ((pgCd 39).drop 24) = true := okC_cat _ 4 24 _ okS_39_6 hz
  have hz : okC (pgB 39) ((pgCd 39).drop 20) = true := okC_cat _ 4 20 _ okS_39_5 hz
  have hz : okC (pgB 39) ((pgCd 39).drop 16) = true := okC_cat _ 4 16 _ okS_39_4 hz
  have hz : okC (pgB 39) ((pgCd 39).drop 12) = true := okC_cat _ 4 12 _ okS_39_3 hz
  have hz : okC (pgB 39) ((pgCd 39).drop 8) = true := okC_cat _ 4 8 _ okS_39_2 hz
  have hz : okC (pgB 39) ((pgCd 39).drop 4) = true := okC_cat _ 4 4 _ okS_39_1 hz
  have hz : okC (pgB 39) ((pgCd 39).drop 0) = true := okC_cat _ 4 0 _ okS_39_0 hz
  exact hz
theorem okMid_39 : okMid 39 = true := by unfold okMid; rw [okCd_39, okM_39]; rfl
theorem okMid_40 : okMid 40 = true := by decide +kernel
theorem okMid_41 : okMid 41 = true := by decide +kernel
theorem okMid_42 : okMid 42 = true := by decide +kernel
theorem okMid_43 : okMid 43 = true := by decide +kernel
theorem okS_44_0 : okC (pgB 44) (((pgCd 44).drop 0).take 4) = true := by decide +kernel
theorem okS_44_1 : okC (pgB 44) (((pgCd 44).drop 4).take 4) = true := by decide +kernel
theorem okS_44_2 : okC (pgB 44) (((pgCd 44).drop 8).take 1) = true := by decide +kernel
theorem okM_44 : okM (pgRw 44) = true := by decide +kernel
theorem okCd_44 : okC (pgB 44) (pgCd 44) = true := by
  have hz : okC (pgB 44) ((pgCd 44).drop 9) = true := by decide +kernel
  have hz : okC (pgB 44) ((pgCd 44).drop 8) = true := okC_cat _ 1 8 _ okS_44_2 hz
  have hz : okC (pgB 44) ((pgCd 44).drop 4) = true := okC_cat _ 4 4 _ okS_44_1 hz
  have hz : okC (pgB 44) ((pgCd 44).drop 0) = true := okC_cat _ 4 0 _ okS_44_0 hz
  exact hz
theorem okMid_44 : okMid 44 = true := by unfold okMid; rw [okCd_44, okM_44]; rfl
theorem okMid_45 : okMid 45 = true := by decide +kernel
theorem okS_46_0 : okC (pgB 46) (((pgCd 46).drop 0).take 4) = true := by decide +kernel
theorem okS_46_1 : okC (pgB 46) (((pgCd 46).drop 4).take 4) = true := by decide +kernel
theorem okS_46_2 : okC (pgB 46) (((pgCd 46).drop 8).take 1) = true := by decide +kernel
theorem okM_46 : okM (pgRw 46) = true := by decide +kernel
theorem okCd_46 : okC (pgB 46) (pgCd 46) = true := by
  have hz : okC (pgB 46) ((pgCd 46).drop 9) = true := by decide +kernel
  have hz : okC (pgB 46) ((pgCd 46).drop 8) = true := okC_cat _ 1 8 _ okS_46_2 hz
  have hz : okC (pgB 46) ((pgCd 46).drop 4) = true := okC_cat _ 4 4 _ okS_46_1 hz
  have hz : okC (pgB 46) ((pgCd 46).drop 0) = true := okC_cat _ 4 0 _ okS_46_0 hz
  exact hz
theorem okMid_46 : okMid 46 = true := by unfold okMid; rw [okCd_46, okM_46]; rfl
theorem okMid_47 : okMid 47 = true := by decide +kernel
theorem okMid_48 : okMid 48 = true := by decide +kernel
theorem okMid_49 : okMid 49 = true := by decide +kernel
theorem okMid_50 : okMid 50 = true := by decide +kernel
theorem okMid_51 : okMid 51 = true := by decide +kernel
theorem okMid_52 : okMid 52 = true := by decide +kernel
theorem okMid_53 : okMid 53 = true := by decide +kernel
theorem okMid_54 : okMid 54 = true := by decide +kernel
theorem okS_55_0 : okC (pgB 55) (((pgCd 55).drop 0).take 4) = true := by decide +kernel
theorem okS_55_1 : okC (pgB 55) (((pgCd 55).drop 4).take 4) = true := by decide +kernel
theorem okS_55_2 : okC (pgB 55) (((pgCd 55).drop 8).take 1) = true := by decide +kernel
theorem okM_55 : okM (pgRw 55) = true := by decide +kernel
theorem okCd_55 : okC (pgB 55) (pgCd 55) = true := by
  have hz : okC (pgB 55) ((pgCd 55).drop 9) = true := by decide +kernel
  have hz : okC (pgB 55) ((pgCd 55).drop 8) = true := okC_cat _ 1 8 _ okS_55_2 hz
  have hz : okC (pgB 55) ((pgCd 55).drop 4) = true := okC_cat _ 4 4 _ okS_55_1 hz
  have hz : okC (pgB 55) ((pgCd 55).drop 0) = true := okC_cat _ 4 0 _ okS_55_0 hz
  exact hz
theorem okMid_55 : okMid 55 = true := by unfold okMid; rw [okCd_55, okM_55]; rfl
theorem okMid_56 : okMid 56 = true := by decide +kernel
theorem okMid_57 : okMid 57 = true := by decide +kernel
theorem okS_58_0 : okC (pgB 58) (((pgCd 58).drop 0).take 4) = true := by decide +kernel
theorem okS_58_1 : okC (pgB 58) (((pgCd 58).drop 4).take 4) = true := by decide +kernel
theorem okS_58_2 : okC (pgB 58) (((pgCd 58).drop 8).take 2) = true := by decide +kernel
theorem okM_58 : okM (pgRw 58) = true := by decide +kernel
theorem okCd_58 : okC (pgB 58) (pgCd 58) = true := by
  have hz : okC (pgB 58) ((pgCd 58).drop 10) = true := by decide +kernel
  have hz : okC (pgB 58) ((pgCd 58).drop 8) = true := okC_cat _ 2 8 _ okS_58_2 hz
  have hz : okC (pgB 58) ((pgCd 58).drop 4) = true := okC_cat _ 4 4 _ okS_58_1 hz
  have hz : okC (pgB 58) ((pgCd 58).drop 0) = true := okC_cat _ 4 0 _ okS_58_0 hz
  exact hz
theorem okMid_58 : okMid 58 = true := by unfold okMid; rw [okCd_58, okM_58]; rfl
theorem okS_59_0 : okC (pgB 59) (((pgCd 59).drop 0).take 4) = true := by decide +kernel
theorem okS_59_1 : okC (pgB 59) (((pgCd 59).drop 4).take 4) = true := by decide +kernel
theorem okS_59_2 : okC (pgB 59) (((pgCd 59).drop 8).take 4) = true := by decide +kernel
theorem okS_59_3 : okC (pgB 59) (((pgCd 59).drop 12).take 4) = true := by decide +kernel
theorem okS_59_4 : okC (pgB 59) (((pgCd 59).drop 16).take 4) = true := by decide +kernel
theorem okS_59_5 : okC (pgB 59) (((pgCd 59).drop 20).take 3) = true := by decide +kernel
theorem okM_59 : okM (pgRw 59) = true := by decide +kernel
theorem okCd_59 : okC (pgB 59) (pgCd 59) = true := by
  have hz : okC (pgB 59) ((pgCd 59).drop 23) = true := by decide +kernel
  have hz : okC (pgB 59) ((pgCd 59).drop 20) = true := okC_cat _ 3 20 _ okS_59_5 hz
  have hz : okC (pgB 59) ((pgCd 59).drop 16) = true := okC_cat _ 4 16 _ okS_59_4 hz
  have hz : okC (pgB 59) ((pgCd 59).drop 12) = true := okC_cat _ 4 12 _ okS_59_3 hz
  have hz : okC (pgB 59) ((pgCd 59).drop 8) = true := okC_cat _ 4 8 _ okS_59_2 hz
  have hz : okC (pgB 59) ((pgCd 59).drop 4) = true := okC_cat _ 4 4 _ okS_59_1 hz
  have hz : okC (pgB 59) ((pgCd 59).drop 0) = true := okC_cat _ 4 0 _ okS_59_0 hz
  exact hz
theorem okMid_59 : okMid 59 = true := by unfold okMid; rw [okCd_59, okM_59]; rfl
theorem okS_60_0 : okC (pgB 60) (((pgCd 60).drop 0).take 4) = true := by decide +kernel
theorem okS_60_1 : okC (pgB 60) (((pgCd 60).drop 4).take 4) = true := by decide +kernel
theorem okS_60_2 : okC (pgB 60) (((pgCd 60).drop 8).take 2) = true := by decide +kernel
theorem okM_60 : okM (pgRw 60) = true := by decide +kernel
theorem okCd_60 : okC (pgB 60) (pgCd 60) = true := by
  have hz : okC (pgB 60) ((pgCd 60).drop 10) = true := by decide +kernel
  have hz : okC (pgB 60) ((pgCd 60).drop 8) = true := okC_cat _ 2 8 _ okS_60_2 hz
  have hz : okC (pgB 60) ((pgCd 60).drop 4) = true := okC_cat _ 4 4 _ okS_60_1 hz
  have hz : okC (pgB 60) ((pgCd 60).drop 0) = true := okC_cat _ 4 0 _ okS_60_0 hz
  exact hz
theorem okMid_60 : okMid 60 = true := by unfold okMid; rw [okCd_60, okM_60]; rfl
theorem okS_61_0 : okC (pgB 61) (((pgCd 61).drop 0).take 4) = true := by decide +kernel
theorem okS_61_1 : okC (pgB 61) (((pgCd 61).drop 4).take 4) = true := by decide +kernel
theorem okM_61 : okM (pgRw 61) = true := by decide +kernel
theorem okCd_61 : okC (pgB 61) (pgCd 61) = true := by
  have hz : okC (pgB 61) ((pgCd 61).drop 8) = true := by decide +kernel
  have hz : okC (pgB 61) ((pgCd 61).drop 4) = true := okC_cat _ 4 4 _ okS_61_1 hz
  have hz : okC (pgB 61) ((pgCd 61).drop 0) = true := okC_cat _ 4 0 _ okS_61_0 hz
  exact hz
theorem okMid_61 : okMid 61 = true := by unfold okMid; rw [okCd_61, okM_61]; rfl
theorem okS_62_0 : okC (pgB 62) (((pgCd 62).drop 0).take 4) = true := by decide +kernel
theorem okS_62_1 : okC (pgB 62) (((pgCd 62).drop 4).take 4) = true := by decide +kernel
theorem okS_62_2 : okC (pgB 62) (((pgCd 62).drop 8).take 4) = true := by decide +kernel
theorem okM_62 : okM (pgRw 62) = true := by decide +kernel
theorem okCd_62 : okC (pgB 62) (pgCd 62) = true := by
  have hz : okC (pgB 62) ((pgCd 62).drop 12) = true := by decide +kernel
  have hz : okC (pgB 62) ((pgCd 62).drop 8) = true := okC_cat _ 4 8 _ okS_62_2 hz
  have hz : okC (pgB 62) ((pgCd 62).drop 4) = true := okC_cat _ 4 4 _ okS_62_1 hz
  have hz : okC (pgB 62) ((pgCd 62).drop 0) = true := okC_cat _ 4 0 _ okS_62_0 hz
  exact hz
theorem okMid_62 : okMid 62 = true := by unfold okMid; rw [okCd_62, okM_62]; rfl
theorem okS_63_0 : okC (pgB 63) (((pgCd 63).drop 0).take 4) = true := by decide +kernel
theorem okS_63_1 : okC (pgB 63) (((pgCd 63).drop 4).take 4) = true := by decide +kernel
theorem okS_63_2 : okC (pgB 63) (((pgCd 63).drop 8).take 2) = true := by decide +kernel
theorem okM_63 : okM (pgRw 63) = true := by decide +kernel
theorem okCd_63 : okC (pgB 63) (pgCd 63) = true := by
  have hz : okC (pgB 63) ((pgCd 63).drop 10) = true := by decide +kernel
  have hz : okC (pgB 63) ((pgCd 63).drop 8) = true := okC_cat _ 2 8 _ okS_63_2 hz
  have hz : okC (pgB 63) ((pgCd 63).drop 4) = true := okC_cat _ 4 4 _ okS_63_1 hz
  have hz : okC (pgB 63) ((pgCd 63).drop 0) = true := okC_cat _ 4 0 _ okS_63_0 hz
  exact hz
theorem okMid_63 : okMid 63 = true := by unfold okMid; rw [okCd_63, okM_63]; rfl
theorem okS_64_0 : okC (pgB 64) (((pgCd 64).drop 0).take 4) = true := by decide +kernel
theorem okS_64_1 : okC (pgB 64) (((pgCd 64).drop 4).take 4) = true := by decide +kernel
theorem okS_64_2 : okC (pgB 64) (((pgCd 64).drop 8).take 4) = true := by decide +kernel
theorem okS_64_3 : okC (pgB 64) (((pgCd 64).drop 12).take 1) = true := by decide +kernel
theorem okM_64 : okM (pgRw 64) = true := by decide +kernel
theorem okCd_64 : okC (pgB 64) (pgCd 64) = true := by
  have hz : okC (pgB 64) ((pgCd 64).drop 13) = true := by decide +kernel
  have hz : okC (pgB 64) ((pgCd 64).drop 12) = true := okC_cat _ 1 12 _ okS_64_3 hz
  have hz : okC (pgB 64) ((pgCd 64).drop 8) = true := okC_cat _ 4 8 _ okS_64_2 hz
  have hz : okC (pgB 64) ((pgCd 64).drop 4) = true := okC_cat _ 4 4 _ okS_64_1 hz
  have hz : okC (pgB 64) ((pgCd 64).drop 0) = true := okC_cat _ 4 0 _ okS_64_0 hz
  exact hz
theorem okMid_64 : okMid 64 = true := by unfold okMid; rw [okCd_64, okM_64]; rfl
theorem okS_65_0 : okC (pgB 65) (((pgCd 65).drop 0).take 4) = true := by decide +kernel
theorem okS_65_1 : okC (pgB 65) (((pgCd 65).drop 4).take 4) = true := by decide +kernel
theorem okM_65 : okM (pgRw 65) = true := by decide +kernel
theorem okCd_65 : okC (pgB 65) (pgCd 65) = true := by
  have hz : okC (pgB 65) ((pgCd 65).drop 8) = true := by decide +kernel
  have hz : okC (pgB 65) ((pgCd 65).drop 4) = true := okC_cat _ 4 4 _ okS_65_1 hz
  have hz : okC (pgB 65) ((pgCd 65).drop 0) = true := okC_cat _ 4 0 _ okS_65_0 hz
  exact hz
theorem okMid_65 : okMid 65 = true := by unfold okMid; rw [okCd_65, okM_65]; rfl
theorem okMid_66 : okMid 66 = true := by decide +kernel
theorem okS_67_0 : okC (pgB 67) (((pgCd 67).drop 0).take 4) = true := by decide +kernel
theorem okS_67_1 : okC (pgB 67) (((pgCd 67).drop 4).take 4) = true := by decide +kernel
theorem okS_67_2 : okC (pgB 67) (((pgCd 67).drop 8).take 4) = true := by decide +kernel
theorem okS_67_3 : okC (pgB 67) (((pgCd 67).drop 12).take 4) = true := by decide +kernel
theorem okS_67_4 : okC (pgB 67) (((pgCd 67).drop 16).take 1) = true := by decide +kernel
theorem okM_67 : okM (pgRw 67) = true := by decide +kernel
theorem okCd_67 : okC (pgB 67) (pgCd 67) = true := by
  have hz : okC (pgB 67) ((pgCd 67).drop 17) = true := by decide +kernel
  have hz : okC (pgB 67) ((pgCd 67).drop 16) = true := okC_cat _ 1 16 _ okS_67_4 hz
  have hz : okC (pgB 67) ((pgCd 67).drop 12) = true := okC_cat _ 4 12 _ okS_67_3 hz
  have hz : okC (pgB 67) ((pgCd 67).drop 8) = true := okC_cat _ 4 8 _ okS_67_2 hz
  have hz : okC (pgB 67) ((pgCd 67).drop 4) = true := okC_cat _ 4 4 _ okS_67_1 hz
  have hz : okC (pgB 67) ((pgCd 67).drop 0) = true := okC_cat _ 4 0 _ okS_67_0 hz
  exact hz
theorem okMid_67 : okMid 67 = true := by unfold okMid; rw [okCd_67, okM_67]; rfl
theorem okMid_68 : okMid 68 = true := by decide +kernel
theorem okS_69_0 : okC (pgB 69) (((pgCd 69).drop 0).take 4) = true := by decide +kernel
theorem okS_69_1 : okC (pgB 69) (((pgCd 69).drop 4).take 4) = true := by decide +kernel
theorem okS_69_2 : okC (pgB 69) (((pgCd 69).drop 8).take 4) = true := by decide +kernel
theorem okS_69_3 : okC (pgB 69) (((pgCd 69).drop 12).take 3) = true := by decide +kernel
theorem okM_69 : okM (pgRw 69) = true := by decide +kernel
theorem okCd_69 : okC (pgB 69) (pgCd 69) = true := by
  have hz : okC (pgB 69) ((pgCd 69).drop 15) = true := by decide +kernel
  have hz : okC (pgB 69) ((pgCd 69).drop 12) = true := okC_cat _ 3 12 _ okS_69_3 hz
  have hz : okC (pgB 69) ((pgCd 69).drop 8) = true := okC_cat _ 4 8 _ okS_69_2 hz
  have hz : okC (pgB 69) ((pgCd 69).drop 4) = true := okC_cat _ 4 4 _ okS_69_1 hz
  have hz : okC (pgB 69) ((pgCd 69).drop 0) = true := okC_cat _ 4 0 _ okS_69_0 hz
  exact hz
theorem okMid_69 : okMid 69 = true := by unfold okMid; rw [okCd_69, okM_69]; rfl
theorem okS_70_0 : okC (pgB 70) (((pgCd 70).drop 0).take 4) = true := by decide +kernel
theorem okS_70_1 : okC (pgB 70) (((pgCd 70).drop 4).take 4) = true := by decide +kernel
theorem okS_70_2 : okC (pgB 70) (((pgCd 70).drop 8).take 4) = true := by decide +kernel
theorem okS_70_3 : okC (pgB 70) (((pgCd 70).drop 12).take 4) = true := by decide +kernel
theorem okS_70_4 : okC (pgB 70) (((pgCd 70).drop 16).take 4) = true := by decide +kernel
theorem okM_70 : okM (pgRw 70) = true := by decide +kernel
theorem okCd_70 : okC (pgB 70) (pgCd 70) = true := by
  have hz : okC (pgB 70) ((pgCd 70).drop 20) = true := by decide +kernel
  have hz : okC (pgB 70) ((pgCd 70).drop 16) = true := okC_cat _ 4 16 _ okS_70_4 hz
  have hz : okC (pgB 70) ((pgCd 70).drop 12) = true := okC_cat _ 4 12 _ okS_70_3 hz
  have hz : okC (pgB 70) ((pgCd 70).drop 8) = true := okC_cat _ 4 8 _ okS_70_2 hz
  have hz : okC (pgB 70) ((pgCd 70).drop 4) = true := okC_cat _ 4 4 _ okS_70_1 hz
  have hz : okC (pgB 70) ((pgCd 70).drop 0) = true := okC_cat _ 4 0 _ okS_70_0 hz
  exact hz
theorem okMid_70 : okMid 70 = true := by unfold okMid; rw [okCd_70, okM_70]; rfl
