theorem okS_0_0 : okC (pgB 0) (((pgCd 0).drop 0).take 4) = true := by decide +kernel
theorem okS_0_1 : okC (pgB 0) (((pgCd 0).drop 4).take 4) = true := by decide +kernel
theorem okS_0_2 : okC (pgB 0) (((pgCd 0).drop 8).take 1) = true := by decide +kernel
theorem okM_0 : okM (pgRw 0) = true := by decide +kernel
theorem okCd_0 : okC (pgB 0) (pgCd 0) = true := by
  have hz : okC (pgB 0) ((pgCd 0).drop 9) = true := by decide +kernel
  have hz : okC (pgB 0) ((pgCd 0).drop 8) = true := okC_cat _ 1 8 _ okS_0_2 hz
  have hz : okC (pgB 0) ((pgCd 0).drop 4) = true := okC_cat _ 4 4 _ okS_0_1 hz
  have hz : okC (pgB 0) ((pgCd 0).drop 0) = true := okC_cat _ 4 0 _ okS_0_0 hz
  exact hz
theorem okMid_0 : okMid 0 = true := by unfold okMid; rw [okCd_0, okM_0]; rfl
theorem okMid_1 : okMid 1 = true := by decide +kernel
theorem okS_2_0 : okC (pgB 2) (((pgCd 2).drop 0).take 4) = true := by decide +kernel
theorem okS_2_1 : okC (pgB 2) (((pgCd 2).drop 4).take 4) = true := by decide +kernel
theorem okS_2_2 : okC (pgB 2) (((pgCd 2).drop 8).take 4) = true := by decide +kernel
theorem okS_2_3 : okC (pgB 2) (((pgCd 2).drop 12).take 2) = true := by decide +kernel
theorem okM_2 : okM (pgRw 2) = true := by decide +kernel
theorem okCd_2 : okC (pgB 2) (pgCd 2) = true := by
  have hz : okC (pgB 2) ((pgCd 2).drop 14) = true := by decide +kernel
  have hz : okC (pgB 2) ((pgCd 2).drop 12) = true := okC_cat _ 2 12 _ okS_2_3 hz
  have hz : okC (pgB 2) ((pgCd 2).drop 8) = true := okC_cat _ 4 8 _ okS_2_2 hz
  have hz : okC (pgB 2) ((pgCd 2).drop 4) = true := okC_cat _ 4 4 _ okS_2_1 hz
  have hz : okC (pgB 2) ((pgCd 2).drop 0) = true := okC_cat _ 4 0 _ okS_2_0 hz
  exact hz
theorem okMid_2 : okMid 2 = true := by unfold okMid; rw [okCd_2, okM_2]; rfl
theorem okS_3_0 : okC (pgB 3) (((pgCd 3).drop 0).take 4) = true := by decide +kernel
theorem okS_3_1 : okC (pgB 3) (((pgCd 3).drop 4).take 4) = true := by decide +kernel
theorem okS_3_2 : okC (pgB 3) (((pgCd 3).drop 8).take 3) = true := by decide +kernel
theorem okM_3 : okM (pgRw 3) = true := by decide +kernel
theorem okCd_3 : okC (pgB 3) (pgCd 3) = true := by
  have hz : okC (pgB 3) ((pgCd 3).drop 11) = true := by decide +kernel
  have hz : okC (pgB 3) ((pgCd 3).drop 8) = true := okC_cat _ 3 8 _ okS_3_2 hz
  have hz : okC (pgB 3) ((pgCd 3).drop 4) = true := okC_cat _ 4 4 _ okS_3_1 hz
  have hz : okC (pgB 3) ((pgCd 3).drop 0) = true := okC_cat _ 4 0 _ okS_3_0 hz
  exact hz
theorem okMid_3 : okMid 3 = true := by unfold okMid; rw [okCd_3, okM_3]; rfl
theorem okS_4_0 : okC (pgB 4) (((pgCd 4).drop 0).take 4) = true := by decide +kernel
theorem okS_4_1 : okC (pgB 4) (((pgCd 4).drop 4).take 4) = true := by decide +kernel
theorem okS_4_2 : okC (pgB 4) (((pgCd 4).drop 8).take 4) = true := by decide +kernel
theorem okS_4_3 : okC (pgB 4) (((pgCd 4).drop 12).take 4) = true := by decide +kernel
theorem okS_4_4 : okC (pgB 4) (((pgCd 4).drop 16).take 4) = true := by decide +kernel
theorem okS_4_5 : okC (pgB 4) (((pgCd 4).drop 20).take 4) = true := by decide +kernel
theorem okM_4 : okM (pgRw 4) = true := by decide +kernel
theorem okCd_4 : okC (pgB 4) (pgCd 4) = true := by
  have hz : okC (pgB 4) ((pgCd 4).drop 24) = true := by decide +kernel
  have hz : okC (pgB 4) ((pgCd 4).drop 20) = true := okC_cat _ 4 20 _ okS_4_5 hz
  have hz : okC (pgB 4) ((pgCd 4).drop 16) = true := okC_cat _ 4 16 _ okS_4_4 hz
  have hz : okC (pgB 4) ((pgCd 4).drop 12) = true := okC_cat _ 4 12 _ okS_4_3 hz
  have hz : okC (pgB 4) ((pgCd 4).drop 8) = true := okC_cat _ 4 8 _ okS_4_2 hz
  have hz : okC (pgB 4) ((pgCd 4).drop 4) = true := okC_cat _ 4 4 _ okS_4_1 hz
  have hz : okC (pgB 4) ((pgCd 4).drop 0) = true := okC_cat _ 4 0 _ okS_4_0 hz
  exact hz
theorem okMid_4 : okMid 4 = true := by unfold okMid; rw [okCd_4, okM_4]; rfl
theorem okMid_5 : okMid 5 = true := by decide +kernel
theorem okMid_6 : okMid 6 = true := by decide +kernel
theorem okMid_7 : okMid 7 = true := by decide +kernel
theorem okS_8_0 : okC (pgB 8) (((pgCd 8).drop 0).take 4) = true := by decide +kernel
theorem okS_8_1 : okC (pgB 8) (((pgCd 8).drop 4).take 4) = true := by decide +kernel
theorem okS_8_2 : okC (pgB 8) (((pgCd 8).drop 8).take 4) = true := by decide +kernel
theorem okS_8_3 : okC (pgB 8) (((pgCd 8).drop 12).take 4) = true := by decide +kernel
theorem okS_8_4 : okC (pgB 8) (((pgCd 8).drop 16).take 4) = true := by decide +kernel
theorem okS_8_5 : okC (pgB 8) (((pgCd 8).drop 20).take 4) = true := by decide +kernel
theorem okM_8 : okM (pgRw 8) = true := by decide +kernel
theorem okCd_8 : okC (pgB 8) (pgCd 8) = true := by
  have hz : okC (pgB 8) ((pgCd 8).drop 24) = true := by decide +kernel
  have hz : okC (pgB 8) ((pgCd 8).drop 20) = true := okC_cat _ 4 20 _ okS_8_5 hz
  have hz : okC (pgB 8) ((pgCd 8).drop 16) = true := okC_cat _ 4 16 _ okS_8_4 hz
  have hz : okC (pgB 8) ((pgCd 8).drop 12) = true := okC_cat _ 4 12 _ okS_8_3 hz
  have hz : okC (pgB 8) ((pgCd 8).drop 8) = true := okC_cat _ 4 8 _ okS_8_2 hz
  have hz : okC (pgB 8) ((pgCd 8).drop 4) = true := okC_cat _ 4 4 _ okS_8_1 hz
  have hz : okC (pgB 8) ((pgCd 8).drop 0) = true := okC_cat _ 4 0 _ okS_8_0 hz
  exact hz
theorem okMid_8 : okMid 8 = true := by unfold okMid; rw [okCd_8, okM_8]; rfl
theorem okMid_9 : okMid 9 = true := by decide +kernel
theorem okMid_10 : okMid 10 = true := by decide +kernel
theorem okMid_11 : okMid 11 = true := by decide +kernel
theorem okS_12_0 : okC (pgB 12) (((pgCd 12).drop 0).take 4) = true := by decide +kernel
theorem okS_12_1 : okC (pgB 12) (((pgCd 12).drop 4).take 4) = true := by decide +kernel
theorem okS_12_2 : okC (pgB 12) (((pgCd 12).drop 8).take 3) = true := by decide +kernel
theorem okM_12 : okM (pgRw 12) = true := by decide +kernel
theorem okCd_12 : okC (pgB 12) (pgCd 12) = true := by
  have hz : okC (pgB 12) ((pgCd 12).drop 11) = true := by decide +kernel
  have hz : okC (pgB 12) ((pgCd 12).drop 8) = true := okC_cat _ 3 8 _ okS_12_2 hz
  have hz : okC (pgB 12) ((pgCd 12).drop 4) = true := okC_cat _ 4 4 _ okS_12_1 hz
  have hz : okC (pgB 12) ((pgCd 12).drop 0) = true := okC_cat _ 4 0 _ okS_12_0 hz
  exact hz
theorem okMid_12 : okMid 12 = true := by unfold okMid; rw [okCd_12, okM_12]; rfl
theorem okS_13_0 : okC (pgB 13) (((pgCd 13).drop 0).take 4) = true := by decide +kernel
theorem okS_13_1 : okC (pgB 13) (((pgCd 13).drop 4).take 4) = true := by decide +kernel
theorem okS_13_2 : okC (pgB 13) (((pgCd 13).drop 8).take 4) = true := by decide +kernel
theorem okS_13_3 : okC (pgB 13) (((pgCd 13).drop 12).take 4) = true := by decide +kernel
theorem okS_13_4 : okC (pgB 13) (((pgCd 13).drop 16).take 4) = true := by decide +kernel
theorem okS_13_5 : okC (pgB 13) (((pgCd 13).drop 20).take 4) = true := by decide +kernel
theorem okS_13_6 : okC (pgB 13) (((pgCd 13).drop 24).take 4) = true := by decide +kernel
theorem okM_13 : okM (pgRw 13) = true := by decide +kernel
theorem okCd_13 : okC (pgB 13) (pgCd 13) = true := by
  have hz : okC (pgB 13) ((pgCd 13).drop 28) = true := by decide +kernel
  have hz : okC (pgB 13) ((pgCd 13).drop 24) = true := okC_cat _ 4 24 _ okS_13_6 hz
  have hz : okC (pgB 13) ((pgCd 13).drop 20) = true := okC_cat _ 4 20 _ okS_13_5 hz
  have hz : okC (pgB 13) ((pgCd 13).drop 16) = true := okC_cat _ 4 16 _ okS_13_4 hz
  have hz : okC (pgB 13) ((pgCd 13).drop 12) = true := okC_cat _ 4 12 _ okS_13_3 hz
  have hz : okC (pgB 13) ((pgCd 13).drop 8) = true := okC_cat _ 4 8 _ okS_13_2 hz
  have hz : okC (pgB 13) ((pgCd 13).drop 4) = true := okC_cat _ 4 4 _ okS_13_1 hz
  have hz : okC (pgB 13) ((pgCd 13).drop 0) = true := okC_cat _ 4 0 _ okS_13_0 hz
  exact hz
theorem okMid_13 : okMid 13 = true := by unfold okMid; rw [okCd_13, okM_13]; rfl
theorem okS_14_0 : okC (pgB 14) (((pgCd 14).drop 0).take 4) = true := by decide +kernel
theorem okS_14_1 : okC (pgB 14) (((pgCd 14).drop 4).take 4) = true := by decide +kernel
theorem okS_14_2 : okC (pgB 14) (((pgCd 14).drop 8).take 4) = true := by decide +kernel
theorem okS_14_3 : okC (pgB 14) (((pgCd 14).drop 12).take 2) = true := by decide +kernel
theorem okM_14 : okM (pgRw 14) = true := by decide +kernel
theorem okCd_14 : okC (pgB 14) (pgCd 14) = true := by
  have hz : okC (pgB 14) ((pgCd 14).drop 14) = true := by decide +kernel
  have hz : okC (pgB 14) ((pgCd 14).drop 12) = true := okC_cat _ 2 12 _ okS_14_3 hz
  have hz : okC (pgB 14) ((pgCd 14).drop 8) = true := okC_cat _ 4 8 _ okS_14_2 hz
  have hz : okC (pgB 14) ((pgCd 14).drop 4) = true := okC_cat _ 4 4 _ okS_14_1 hz
  have hz : okC (pgB 14) ((pgCd 14).drop 0) = true := okC_cat _ 4 0 _ okS_14_0 hz
  exact hz
theorem okMid_14 : okMid 14 = true := by unfold okMid; rw [okCd_14, okM_14]; rfl
theorem okS_15_0 : okC (pgB 15) (((pgCd 15).drop 0).take 4) = true := by decide +kernel
theorem okS_15_1 : okC (pgB 15) (((pgCd 15).drop 4).take 4) = true := by decide +kernel
theorem okS_15_2 : okC (pgB 15) (((pgCd 15).drop 8).take 4) = true := by decide +kernel
theorem okM_15 : okM (pgRw 15) = true := by decide +kernel
theorem okCd_15 : okC (pgB 15) (pgCd 15) = true := by
  have hz : okC (pgB 15) ((pgCd 15).drop 12) = true := by decide +kernel
  have hz : okC (pgB 15) ((pgCd 15).drop 8) = true := okC_cat _ 4 8 _ okS_15_2 hz
  have hz : okC (pgB 15) ((pgCd 15).drop 4) = true := okC_cat _ 4 4 _ okS_15_1 hz
  have hz : okC (pgB 15) ((pgCd 15).drop 0) = true := okC_cat _ 4 0 _ okS_15_0 hz
  exact hz
theorem okMid_15 : okMid 15 = true := by unfold okMid; rw [okCd_15, okM_15]; rfl
theorem okS_16_0 : okC (pgB 16) (((pgCd 16).drop 0).take 4) = true := by decide +kernel
theorem okS_16_1 : okC (pgB 16) (((pgCd 16).drop 4).take 4) = true := by decide +kernel
theorem okS_16_2 : okC (pgB 16) (((pgCd 16).drop 8).take 4) = true := by decide +kernel
theorem okS_16_3 : okC (pgB 16) (((pgCd 16).drop 12).take 4) = true := by decide +kernel
theorem okS_16_4 : okC (pgB 16) (((pgCd 16).drop 16).take 1) = true := by decide +kernel
theorem okM_16 : okM (pgRw 16) = true := by decide +kernel
theorem okCd_16 : okC (pgB 16) (pgCd 16) = true := by
  have hz : okC (pgB 16) ((pgCd 16).drop 17) = true := by decide +kernel
  have hz : okC (pgB 16) ((pgCd 16).drop 16) = true := okC_cat _ 1 16 _ okS_16_4 hz
  have hz : okC (pgB 16) ((pgCd 16).drop 12) = true := okC_cat _ 4 12 _ okS_16_3 hz
  have hz : okC (pgB 16) ((pgCd 16).drop 8) = true := okC_cat _ 4 8 _ okS_16_2 hz
  have hz : okC (pgB 16) ((pgCd 16).drop 4) = true := okC_cat _ 4 4 _ okS_16_1 hz
  have hz : okC (pgB 16) ((pgCd 16).drop 0) = true := okC_cat _ 4 0 _ okS_16_0 hz
  exact hz
theorem okMid_16 : okMid 16 = true := by unfold okMid; rw [okCd_16, okM_16]; rfl
theorem okS_17_0 : okC (pgB 17) (((pgCd 17).drop 0).take 4) = true := by decide +kernel
theorem okS_17_1 : okC (pgB 17) (((pgCd 17).drop 4).take 4) = true := by decide +kernel
theorem okS_17_2 : okC (pgB 17) (((pgCd 17).drop 8).take 1) = true := by decide +kernel
theorem okM_17 : okM (pgRw 17) = true := by decide +kernel
theorem okCd_17 : okC (pgB 17) (pgCd 17) = true := by
  have hz : okC (pgB 17) ((pgCd 17).drop 9) = true := by decide +kernel
  have hz : okC (pgB 17) ((pgCd 17).drop 8) = true := okC_cat _ 1 8 _ okS_17_2 hz
  have hz : okC (pgB 17) ((pgCd 17).drop 4) = true := okC_cat _ 4 4 _ okS_17_1 hz
  have hz : okC (pgB 17) ((pgCd 17).drop 0) = true := okC_cat _ 4 0 _ okS_17_0 hz
  exact hz
theorem okMid_17 : okMid 17 = true := by unfold okMid; rw [okCd_17, okM_17]; rfl
theorem okS_18_0 : okC (pgB 18) (((pgCd 18).drop 0).take 4) = true := by decide +kernel
theorem okS_18_1 : okC (pgB 18) (((pgCd 18).drop 4).take 4) = true := by decide +kernel
theorem okS_18_2 : okC (pgB 18) (((pgCd 18).drop 8).take 4) = true := by decide +kernel
theorem okS_18_3 : okC (pgB 18) (((pgCd 18).drop 12).take 2) = true := by decide +kernel
theorem okM_18 : okM (pgRw 18) = true := by decide +kernel
theorem okCd_18 : okC (pgB 18) (pgCd 18) = true := by
  have hz : okC (pgB 18) ((pgCd 18).drop 14) = true := by decide +kernel
  have hz : okC (pgB 18) ((pgCd 18).drop 12) = true := okC_cat _ 2 12 _ okS_18_3 hz
  have hz : okC (pgB 18) ((pgCd 18).drop 8) = true := okC_cat _ 4 8 _ okS_18_2 hz
  have hz : okC (pgB 18) ((pgCd 18).drop 4) = true := okC_cat _ 4 4 _ okS_18_1 hz
  have hz : okC (pgB 18) ((pgCd 18).drop 0) = true := okC_cat _ 4 0 _ okS_18_0 hz
  exact hz
theorem okMid_18 : okMid 18 = true := by unfold okMid; rw [okCd_18, okM_18]; rfl
theorem okS_19_0 : okC (pgB 19) (((pgCd 19).drop 0).take 4) = true := by decide +kernel
theorem okS_19_1 : okC (pgB 19) (((pgCd 19).drop 4).take 4) = true := by decide +kernel
theorem okS_19_2 : okC (pgB 19) (((pgCd 19).drop 8).take 4) = true := by decide +kernel
theorem okM_19 : okM (pgRw 19) = true := by decide +kernel
theorem okCd_19 : okC (pgB 19) (pgCd 19) = true := by
  have hz : okC (pgB 19) ((pgCd 19).drop 12) = true := by decide +kernel
  have hz : okC (pgB 19) ((pgCd 19).drop 8) = true := okC_cat _ 4 8 _ okS_19_2 hz
  have hz : okC (pgB 19) ((pgCd 19).drop 4) = true := okC_cat _ 4 4 _ okS_19_1 hz
  have hz : okC (pgB 19) ((pgCd 19).drop 0) = true := okC_cat _ 4 0 _ okS_19_0 hz
  exact hz
theorem okMid_19 : okMid 19 = true := by unfold okMid; rw [okCd_19, okM_19]; rfl
theorem okMid_20 : okMid 20 = true := by decide +kernel
theorem okMid_21 : okMid 21 = true := by decide +kernel
theorem okMid_22 : okMid 22 = true := by decide +kernel
theorem okMid_23 : okMid 23 = true := by decide +kernel
theorem okMid_24 : okMid 24 = true := by decide +kernel
theorem okMid_25 : okMid 25 = true := by decide +kernel
theorem okMid_26 : okMid 26 = true := by decide +kernel
theorem okS_27_0 : okC (pgB 27) (((pgCd 27).drop 0).take 4) = true := by decide +kernel
theorem okS_27_1 : okC (pgB 27) (((pgCd 27).drop 4).take 4) = true := by decide +kernel
theorem okS_27_2 : okC (pgB 27) (((pgCd 27).drop 8).take 2) = true := by decide +kernel
theorem okM_27 : okM (pgRw 27) = true := by decide +kernel
theorem okCd_27 : okC (pgB 27) (pgCd 27) = true := by
  have hz : okC (pgB 27) ((pgCd 27).drop 10) = true := by decide +kernel
  have hz : okC (pgB 27) ((pgCd 27).drop 8) = true := okC_cat _ 2 8 _ okS_27_2 hz
  have hz : okC (pgB 27) ((pgCd 27).drop 4) = true := okC_cat _ 4 4 _ okS_27_1 hz
  have hz : okC (pgB 27) ((pgCd 27).drop 0) = true := okC_cat _ 4 0 _ okS_27_0 hz
  exact hz
theorem okMid_27 : okMid 27 = true := by unfold okMid; rw [okCd_27, okM_27]; rfl
theorem okMid_28 : okMid 28 = true := by decide +kernel
theorem okMid_29 : okMid 29 = true := by decide +kernel
theorem okS_30_0 : okC (pgB 30) (((pgCd 30).drop 0).take 4) = true := by decide +kernel
theorem okS_30_1 : okC (pgB 30) (((pgCd 30).drop 4).take 4) = true := by decide +kernel
theorem okS_30_2 : okC (pgB 30) (((pgCd 30).drop 8).take 4) = true := by decide +kernel
theorem okS_30_3 : okC (pgB 30) (((pgCd 30).drop 12).take 2) = true := by decide +kernel
theorem okM_30 : okM (pgRw 30) = true := by decide +kernel
theorem okCd_30 : okC (pgB 30) (pgCd 30) = true := by
  have hz : okC (pgB 30) ((pgCd 30).drop 14) = true := by decide +kernel
  have hz : okC (pgB 30) ((pgCd 30).drop 12) = true := okC_cat _ 2 12 _ okS_30_3 hz
  have hz : okC (pgB 30) ((pgCd 30).drop 8) = true := okC_cat _ 4 8 _ okS_30_2 hz
  have hz : okC (pgB 30) ((pgCd 30).drop 4) = true := okC_cat _ 4 4 _ okS_30_1 hz
  have hz : okC (pgB 30) ((pgCd 30).drop 0) = true := okC_cat _ 4 0 _ okS_30_0 hz
  exact hz
theorem okMid_30 : okMid 30 = true := by unfold okMid; rw [okCd_30, okM_30]; rfl
theorem okMid_31 : okMid 31 = true := by decide +kernel
theorem okMid_32 : okMid 32 = true := by decide +kernel
theorem okS_33_0 : okC (pgB 33) (((pgCd 33).drop 0).take 4) = true := by decide +kernel
theorem okS_33_1 : okC (pgB 33) (((pgCd 33).drop 4).take 4) = true := by decide +kernel
theorem okS_33_2 : okC (pgB 33) (((pgCd 33).drop 8).take 4) = true := by decide +kernel
theorem okS_33_3 : okC (pgB 33) (((pgCd 33).drop 12).take 1) = true := by decide +kernel
theorem okM_33 : okM (pgRw 33) = true := by decide +kernel
theorem okCd_33 : okC (pgB 33) (pgCd 33) = true := by
  have hz : okC (pgB 33) ((pgCd 33).drop 13) = true := by decide +kernel
  have hz : okC (pgB 33) ((pgCd 33).drop 12) = true := okC_cat _ 1 12 _ okS_33_3 hz
  have hz : okC (pgB 33) ((pgCd 33).drop 8) = true := okC_cat _ 4 8 _ okS_33_2 hz
  have hz : okC (pgB 33) ((pgCd 33).drop 4) = true := okC_cat _ 4 4 _ okS_33_1 hz
  have hz : okC (pgB 33) ((pgCd 33).drop 0) = true := okC_cat _ 4 0 _ okS_33_0 hz
  exact hz
theorem okMid_33 : okMid 33 = true := by unfold okMid; rw [okCd_33, okM_33]; rfl
theorem okS_34_0 : okC (pgB 34) (((pgCd 34).drop 0).take 4) = true := by decide +kernel
theorem okS_34_1 : okC (pgB 34) (((pgCd 34).drop 4).take 4) = true := by decide +kernel
theorem okS_34_2 : okC (pgB 34) (((pgCd 34).drop 8).take 4) = true := by decide +kernel
theorem okS_34_3 : okC (pgB 34) (((pgCd 34).drop 12).take 4) = true := by decide +kernel
theorem okS_34_4 : okC (pgB 34) (((pgCd 34).drop 16).take 2) = true := by decide +kernel
theorem okM_34 : okM (pgRw 34) = true := by decide +kernel
theorem okCd_34 : okC (pgB 34) (pgCd 34) = true := by
  have hz : okC (pgB 34) ((pgCd 34).drop 18) = true := by decide +kernel
  have hz : okC (pgB 34) ((pgCd 34).drop 16) = true := okC_cat _ 2 16 _ okS_34_4 hz
  have hz : okC (pgB 34) ((pgCd 34).drop 12) = true := okC_cat _ 4 12 _ okS_34_3 hz
  have hz : okC (pgB 34) ((pgCd 34).drop 8) = true := okC_cat _ 4 8 _ okS_34_2 hz
  have hz : okC (pgB 34) ((pgCd 34).drop 4) = true := okC_cat _ 4 4 _ okS_34_1 hz
  have hz : okC (pgB 34) ((pgCd 34).drop 0) = true := okC_cat _ 4 0 _ okS_34_0 hz
  exact hz
theorem okMid_34 : okMid 34 = true := by unfold okMid; rw [okCd_34, okM_34]; rfl
