theorem okMid_243 : okMid 243 = true := by decide +kernel
theorem okMid_244 : okMid 244 = true := by decide +kernel
theorem okS_245_0 : okC (pgB 245) (((pgCd 245).drop 0).take 4) = true := by decide +kernel
theorem okS_245_1 : okC (pgB 245) (((pgCd 245).drop 4).take 4) = true := by decide +kernel
theorem okS_245_2 : okC (pgB 245) (((pgCd 245).drop 8).take 4) = true := by decide +kernel
theorem okS_245_3 : okC (pgB 245) (((pgCd 245).drop 12).take 4) = true := by decide +kernel
theorem okM_245 : okM (pgRw 245) = true := by decide +kernel
theorem okCd_245 : okC (pgB 245) (pgCd 245) = true := by
  have hz : okC (pgB 245) ((pgCd 245).drop 16) = true := by decide +kernel
  have hz : okC (pgB 245) ((pgCd 245).drop 12) = true := okC_cat _ 4 12 _ okS_245_3 hz
  have hz : okC (pgB 245) ((pgCd 245).drop 8) = true := okC_cat _ 4 8 _ okS_245_2 hz
  have hz : okC (pgB 245) ((pgCd 245).drop 4) = true := okC_cat _ 4 4 _ okS_245_1 hz
  have hz : okC (pgB 245) ((pgCd 245).drop 0) = true := okC_cat _ 4 0 _ okS_245_0 hz
  exact hz
theorem okMid_245 : okMid 245 = true := by unfold okMid; rw [okCd_245, okM_245]; rfl
theorem okMid_246 : okMid 246 = true := by decide +kernel
theorem okS_247_0 : okC (pgB 247) (((pgCd 247).drop 0).take 4) = true := by decide +kernel
theorem okS_247_1 : okC (pgB 247) (((pgCd 247).drop 4).take 4) = true := by decide +kernel
theorem okS_247_2 : okC (pgB 247) (((pgCd 247).drop 8).take 4) = true := by decide +kernel
theorem okS_247_3 : okC (pgB 247) (((pgCd 247).drop 12).take 4) = true := by decide +kernel
theorem okS_247_4 : okC (pgB 247) (((pgCd 247).drop 16).take 4) = true := by decide +kernel
theorem okS_247_5 : okC (pgB 247) (((pgCd 247).drop 20).take 4) = true := by decide +kernel
theorem okM_247 : okM (pgRw 247) = true := by decide +kernel
theorem okCd_247 : okC (pgB 247) (pgCd 247) = true := by
  have hz : okC (pgB 247) ((pgCd 247).drop 24) = true := by decide +kernel
  have hz : okC (pgB 247) ((pgCd 247).drop 20) = true := okC_cat _ 4 20 _ okS_247_5 hz
  have hz : okC (pgB 247) ((pgCd 247).drop 16) = true := okC_cat _ 4 16 _ okS_247_4 hz
  have hz : okC (pgB 247) ((pgCd 247).drop 12) = true := okC_cat _ 4 12 _ okS_247_3 hz
  have hz : okC (pgB 247) ((pgCd 247).drop 8) = true := okC_cat _ 4 8 _ okS_247_2 hz
  have hz : okC (pgB 247) ((pgCd 247).drop 4) = true := okC_cat _ 4 4 _ okS_247_1 hz
  have hz : okC (pgB 247) ((pgCd 247).drop 0) = true := okC_cat _ 4 0 _ okS_247_0 hz
  exact hz
theorem okMid_247 : okMid 247 = true := by unfold okMid; rw [okCd_247, okM_247]; rfl
theorem okS_248_0 : okC (pgB 248) (((pgCd 248).drop 0).take 4) = true := by decide +kernel
theorem okS_248_1 : okC (pgB 248) (((pgCd 248).drop 4).take 4) = true := by decide +kernel
theorem okS_248_2 : okC (pgB 248) (((pgCd 248).drop 8).take 4) = true := by decide +kernel
theorem okS_248_3 : okC (pgB 248) (((pgCd 248).drop 12).take 1) = true := by decide +kernel
theorem okM_248 : okM (pgRw 248) = true := by decide +kernel
theorem okCd_248 : okC (pgB 248) (pgCd 248) = true := by
  have hz : okC (pgB 248) ((pgCd 248).drop 13) = true := by decide +kernel
  have hz : okC (pgB 248) ((pgCd 248).drop 12) = true := okC_cat _ 1 12 _ okS_248_3 hz
  have hz : okC (pgB 248) ((pgCd 248).drop 8) = true := okC_cat _ 4 8 _ okS_248_2 hz
  have hz : okC (pgB 248) ((pgCd 248).drop 4) = true := okC_cat _ 4 4 _ okS_248_1 hz
  have hz : okC (pgB 248) ((pgCd 248).drop 0) = true := okC_cat _ 4 0 _ okS_248_0 hz
  exact hz
theorem okMid_248 : okMid 248 = true := by unfold okMid; rw [okCd_248, okM_248]; rfl
theorem okS_249_0 : okC (pgB 249) (((pgCd 249).drop 0).take 4) = true := by decide +kernel
theorem okS_249_1 : okC (pgB 249) (((pgCd 249).drop 4).take 4) = true := by decide +kernel
theorem okS_249_2 : okC (pgB 249) (((pgCd 249).drop 8).take 4) = true := by decide +kernel
theorem okS_249_3 : okC (pgB 249) (((pgCd 249).drop 12).take 3) = true := by decide +kernel
theorem okM_249 : okM (pgRw 249) = true := by decide +kernel
theorem okCd_249 : okC (pgB 249) (pgCd 249) = true := by
  have hz : okC (pgB 249) ((pgCd 249).drop 15) = true := by decide +kernel
  have hz : okC (pgB 249) ((pgCd 249).drop 12) = true := okC_cat _ 3 12 _ okS_249_3 hz
  have hz : okC (pgB 249) ((pgCd 249).drop 8) = true := okC_cat _ 4 8 _ okS_249_2 hz
  have hz : okC (pgB 249) ((pgCd 249).drop 4) = true := okC_cat _ 4 4 _ okS_249_1 hz
  have hz : okC (pgB 249) ((pgCd 249).drop 0) = true := okC_cat _ 4 0 _ okS_249_0 hz
  exact hz
theorem okMid_249 : okMid 249 = true := by unfold okMid; rw [okCd_249, okM_249]; rfl
theorem okMid_250 : okMid 250 = true := by decide +kernel
theorem okMid_251 : okMid 251 = true := by decide +kernel
theorem okS_252_0 : okC (pgB 252) (((pgCd 252).drop 0).take 4) = true := by decide +kernel
theorem okS_252_1 : okC (pgB 252) (((pgCd 252).drop 4).take 4) = true := by decide +kernel
theorem okS_252_2 : okC (pgB 252) (((pgCd 252).drop 8).take 4) = true := by decide +kernel
theorem okS_252_3 : okC (pgB 252) (((pgCd 252).drop 12).take 1) = true := by decide +kernel
theorem okM_252 : okM (pgRw 252) = true := by decide +kernel
theorem okCd_252 : okC (pgB 252) (pgCd 252) = true := by
  have hz : okC (pgB 252) ((pgCd 252).drop 13) = true := by decide +kernel
  have hz : okC (pgB 252) ((pgCd 252).drop 12) = true := okC_cat _ 1 12 _ okS_252_3 hz
  have hz : okC (pgB 252) ((pgCd 252).drop 8) = true := okC_cat _ 4 8 _ okS_252_2 hz
  have hz : okC (pgB 252) ((pgCd 252).drop 4) = true := okC_cat _ 4 4 _ okS_252_1 hz
  have hz : okC (pgB 252) ((pgCd 252).drop 0) = true := okC_cat _ 4 0 _ okS_252_0 hz
  exact hz
theorem okMid_252 : okMid 252 = true := by unfold okMid; rw [okCd_252, okM_252]; rfl
theorem okS_253_0 : okC (pgB 253) (((pgCd 253).drop 0).take 4) = true := by decide +kernel
theorem okS_253_1 : okC (pgB 253) (((pgCd 253).drop 4).take 4) = true := by decide +kernel
theorem okS_253_2 : okC (pgB 253) (((pgCd 253).drop 8).take 4) = true := by decide +kernel
theorem okS_253_3 : okC (pgB 253) (((pgCd 253).drop 12).take 4) = true := by decide +kernel
theorem okS_253_4 : okC (pgB 253) (((pgCd 253).drop 16).take 3) = true := by decide +kernel
theorem okM_253 : okM (pgRw 253) = true := by decide +kernel
theorem okCd_253 : okC (pgB 253) (pgCd 253) = true := by
  have hz : okC (pgB 253) ((pgCd 253).drop 19) = true := by decide +kernel
  have hz : okC (pgB 253) ((pgCd 253).drop 16) = true := okC_cat _ 3 16 _ okS_253_4 hz
  have hz : okC (pgB 253) ((pgCd 253).drop 12) = true := okC_cat _ 4 12 _ okS_253_3 hz
  have hz : okC (pgB 253) ((pgCd 253).drop 8) = true := okC_cat _ 4 8 _ okS_253_2 hz
  have hz : okC (pgB 253) ((pgCd 253).drop 4) = true := okC_cat _ 4 4 _ okS_253_1 hz
  have hz : okC (pgB 253) ((pgCd 253).drop 0) = true := okC_cat _ 4 0 _ okS_253_0 hz
  exact hz
theorem okMid_253 : okMid 253 = true := by unfold okMid; rw [okCd_253, okM_253]; rfl
theorem okS_254_0 : okC (pgB 254) (((pgCd 254).drop 0).take 4) = true := by decide +kernel
theorem okS_254_1 : okC (pgB 254) (((pgCd 254).drop 4).take 4) = true := by decide +kernel
theorem okS_254_2 : okC (pgB 254) (((pgCd 254).drop 8).take 4) = true := by decide +kernel
theorem okS_254_3 : okC (pgB 254) (((pgCd 254).drop 12).take 4) = true := by decide +kernel
theorem okM_254 : okM (pgRw 254) = true := by decide +kernel
theorem okCd_254 : okC (pgB 254) (pgCd 254) = true := by
  have hz : okC (pgB 254) ((pgCd 254).drop 16) = true := by decide +kernel
  have hz : okC (pgB 254) ((pgCd 254).drop 12) = true := okC_cat _ 4 12 _ okS_254_3 hz
  have hz : okC (pgB 254) ((pgCd 254).drop 8) = true := okC_cat _ 4 8 _ okS_254_2 hz
  have hz : okC (pgB 254) ((pgCd 254).drop 4) = true := okC_cat _ 4 4 _ okS_254_1 hz
  have hz : okC (pgB 254) ((pgCd 254).drop 0) = true := okC_cat _ 4 0 _ okS_254_0 hz
  exact hz
theorem okMid_254 : okMid 254 = true := by unfold okMid; rw [okCd_254, okM_254]; rfl
theorem okS_255_0 : okC (pgB 255) (((pgCd 255).drop 0).take 4) = true := by decide +kernel
theorem okS_255_1 : okC (pgB 255) (((pgCd 255).drop 4).take 4) = true := by decide +kernel
theorem okS_255_2 : okC (pgB 255) (((pgCd 255).drop 8).take 2) = true := by decide +kernel
theorem okM_255 : okM (pgRw 255) = true := by decide +kernel
theorem okCd_255 : okC (pgB 255) (pgCd 255) = true := by
  have hz : okC (pgB 255) ((pgCd 255).drop 10) = true := by decide +kernel
  have hz : okC (pgB 255) ((pgCd 255).drop 8) = true := okC_cat _ 2 8 _ okS_255_2 hz
  have hz : okC (pgB 255) ((pgCd 255).drop 4) = true := okC_cat _ 4 4 _ okS_255_1 hz
  have hz : okC (pgB 255) ((pgCd 255).drop 0) = true := okC_cat _ 4 0 _ okS_255_0 hz
  exact hz
theorem okMid_255 : okMid 255 = true := by unfold okMid; rw [okCd_255, okM_255]; rfl
theorem okMid_256 : okMid 256 = true := by decide +kernel
theorem okS_257_0 : okC (pgB 257) (((pgCd 257).drop 0).take 4) = true := by decide +kernel
theorem okS_257_1 : okC (pgB 257) (((pgCd 257).drop 4).take 4) = true := by decide +kernel
theorem okM_257 : okM (pgRw 257) = true := by decide +kernel
theorem okCd_257 : okC (pgB 257) (pgCd 257) = true := by
  have hz : okC (pgB 257) ((pgCd 257).drop 8) = true := by decide +kernel
  have hz : okC (pgB 257) ((pgCd 257).drop 4) = true := okC_cat _ 4 4 _ okS_257_1 hz
  have hz : okC (pgB 257) ((pgCd 257).drop 0) = true := okC_cat _ 4 0 _ okS_257_0 hz
  exact hz
theorem okMid_257 : okMid 257 = true := by unfold okMid; rw [okCd_257, okM_257]; rfl
theorem okS_258_0 : okC (pgB 258) (((pgCd 258).drop 0).take 4) = true := by decide +kernel
theorem okS_258_1 : okC (pgB 258) (((pgCd 258).drop 4).take 4) = true := by decide +kernel
theorem okS_258_2 : okC (pgB 258) (((pgCd 258).drop 8).take 4) = true := by decide +kernel
theorem okS_258_3 : okC (pgB 258) (((pgCd 258).drop 12).take 4) = true := by decide +kernel
theorem okS_258_4 : okC (pgB 258) (((pgCd 258).drop 16).take 4) = true := by decide +kernel
theorem okS_258_5 : okC (pgB 258) (((pgCd 258).drop 20).take 4) = true := by decide +kernel
theorem okS_258_6 : okC (pgB 258) (((pgCd 258).drop 24).take 1) = true := by decide +kernel
theorem okM_258 : okM (pgRw 258) = true := by decide +kernel
theorem okCd_258 : okC (pgB 258) (pgCd 258) = true := by
  have hz : okC (pgB 258) ((pgCd 258).drop 25) = true := by decide +kernel
  have hz : okC (pgB 258) ((pgCd 258).drop 24) = true := okC_cat _ 1 24 _ okS_258_6 hz
  have hz : okC (pgB 258) ((pgCd 258).drop 20) = true := okC_cat _ 4 20 _ okS_258_5 hz
  have hz : okC (pgB 258) ((pgCd 258).drop 16) = true := okC_cat _ 4 16 _ okS_258_4 hz
  have hz : okC (pgB 258) ((pgCd 258).drop 12) = true := okC_cat _ 4 12 _ okS_258_3 hz
  have hz : okC (pgB 258) ((pgCd 258).drop 8) = true := okC_cat _ 4 8 _ okS_258_2 hz
  have hz : okC (pgB 258) ((pgCd 258).drop 4) = true := okC_cat _ 4 4 _ okS_258_1 hz
  have hz : okC (pgB 258) ((pgCd 258).drop 0) = true := okC_cat _ 4 0 _ okS_258_0 hz
  exact hz
theorem okMid_258 : okMid 258 = true := by unfold okMid; rw [okCd_258, okM_258]; rfl
theorem okS_259_0 : okC (pgB 259) (((pgCd 259).drop 0).take 4) = true := by decide +kernel
theorem okS_259_1 : okC (pgB 259) (((pgCd 259).drop 4).take 3) = true := by decide +kernel
theorem okM_259 : okM (pgRw 259) = true := by decide +kernel
theorem okCd_259 : okC (pgB 259) (pgCd 259) = true := by
  have hz : okC (pgB 259) ((pgCd 259).drop 7) = true := by decide +kernel
  have hz : okC (pgB 259) ((pgCd 259).drop 4) = true := okC_cat _ 3 4 _ okS_259_1 hz
  have hz : okC (pgB 259) ((pgCd 259).drop 0) = true := okC_cat _ 4 0 _ okS_259_0 hz
  exact hz
theorem okMid_259 : okMid 259 = true := by unfold okMid; rw [okCd_259, okM_259]; rfl
theorem okCx_260 : okC (pgB 260) (pgCd 260) = true := by decide +kernel
theorem okCx_261 : okC (pgB 261) (pgCd 261) = true := by decide +kernel
theorem okCx_262 : okC (pgB 262) (pgCd 262) = true := by decide +kernel
theorem okCx_263 : okC (pgB 263) (pgCd 263) = true := by decide +kernel
theorem okMid_264 : okMid 264 = true := by decide +kernel
theorem okMid_265 : okMid 265 = true := by decide +kernel
theorem okMid_266 : okMid 266 = true := by decide +kernel
theorem okMid_267 : okMid 267 = true := by decide +kernel
theorem okMid_268 : okMid 268 = true := by decide +kernel
theorem okMid_269 : okMid 269 = true := by decide +kernel
theorem okMid_270 : okMid 270 = true := by decide +kernel
theorem okMid_271 : okMid 271 = true := by decide +kernel
theorem okMid_272 : okMid 272 = true := by decide +kernel
theorem okMid_273 : okMid 273 = true := by decide +kernel
theorem okS_274_0 : okC (pgB 274) (((pgCd 274).drop 0).take 2) = true := by decide +kernel
theorem okS_274_1 : okC (pgB 274) (((pgCd 274).drop 2).take 2) = true := by decide +kernel
theorem okS_274_2 : okC (pgB 274) (((pgCd 274).drop 4).take 2) = true := by decide +kernel
theorem okS_274_3 : okC (pgB 274) (((pgCd 274).drop 6).take 2) = true := by decide +kernel
theorem okS_274_4 : okC (pgB 274) (((pgCd 274).drop 8).take 2) = true := by decide +kernel
theorem okS_274_5 : okC (pgB 274) (((pgCd 274).drop 10).take 2) = true := by decide +kernel
theorem okS_274_6 : okC (pgB 274) (((pgCd 274).drop 12).take 2) = true := by decide +kernel
theorem okS_274_7 : okC (pgB 274) (((pgCd 274).drop 14).take 2) = true := by decide +kernel
theorem okS_274_8 : okC (pgB 274) (((pgCd 274).drop 16).take 2) = true := by decide +kernel
theorem okS_274_9 : okC (pgB 274) (((pgCd 274).drop 18).take 2) = true := by decide +kernel
theorem okS_274_10 : okC (pgB 274) (((pgCd 274).drop 20).take 2) = true := by decide +kernel
theorem okS_274_11 : okC (pgB 274) (((pgCd 274).drop 22).take 2) = true := by decide +kernel
theorem okS_274_12 : okC (pgB 274) (((pgCd 274).drop 24).take 2) = true := by decide +kernel
theorem okS_274_13 : okC (pgB 274) (((pgCd 274).drop 26).take 2) = true := by decide +kernel
theorem okS_274_14 : okC (pgB 274) (((pgCd 274).drop 28).take 2) = true := by decide +kernel
theorem okS_274_15 : okC (pgB 274) (((pgCd 274).drop 30).take 2) = true := by decide +kernel
theorem okS_274_16 : okC (pgB 274) (((pgCd 274).drop 32).take 2) = true := by decide +kernel
theorem okS_274_17 : okC (pgB 274) (((pgCd 274).drop 34).take 2) = true := by decide +kernel
theorem okS_274_18 : okC (pgB 274) (((pgCd 274).drop 36).take 2) = true := by decide +kernel
theorem okS_274_19 : okC (pgB 274) (((pgCd 274).drop 38).take 2) = true := by decide +kernel
theorem okS_274_20 : okC (pgB 274) (((pgCd 274).drop 40).take 2) = true := by decide +kernel
theorem okS_274_21 : okC (pgB 274) (((pgCd 274).drop 42).take 2) = true := by decide +kernel
theorem okS_274_22 : okC (pgB 274) (((pgCd 274).drop 44).take 2) = true := by decide +kernel
theorem okS_274_23 : okC (pgB 274) (((pgCd 274).drop 46).take 2) = true := by decide +kernel
theorem okS_274_24 : okC (pgB 274) (((pgCd 274).drop 48).take 2) = true := by decide +kernel
theorem okS_274_25 : okC (pgB 274) (((pgCd 274).drop 50).take 2) = true := by decide +kernel
theorem okS_274_26 : okC (pgB 274) (((pgCd 274).drop 52).take 2) = true := by decide +kernel
theorem okS_274_27 : okC (pgB 274) (((pgCd 274).drop 54).take 2) = true := by decide +kernel
theorem okS_274_28 : okC (pgB 274) (((pgCd 274).drop 56).take 2) = true := by decide +kernel
theorem okS_274_29 : okC (pgB 274) (((pgCd 274).drop 58).take 2) = true := by decide +kernel
theorem okS_274_30 : okC (pgB 274) (((pgCd 274).drop 60).take 2) = true := by decide +kernel
theorem okS_274_31 : okC (pgB 274) (((pgCd 274).drop 62).take 2) = true := by decide +kernel
theorem okS_274_32 : okC (pgB 274) (((pgCd 274).drop 64).take 2) = true := by decide +kernel
theorem okS_274_33 : okC (pgB 274) (((pgCd 274).drop 66).take 2) = true := by decide +kernel
theorem okS_274_34 : okC (pgB 274) (((pgCd 274).drop 68).take 2) = true := by decide +kernel
theorem okS_274_35 : okC (pgB 274) (((pgCd 274).drop 70).take 2) = true := by decide +kernel
theorem okS_274_36 : okC (pgB 274) (((pgCd 274).drop 72).take 2) = true := by decide +kernel
theorem okS_274_37 : okC (pgB 274) (((pgCd 274).drop 74).take 2) = true := by decide +kernel
theorem okS_274_38 : okC (pgB 274) (((pgCd 274).drop 76).take 2) = true := by decide +kernel
theorem okS_274_39 : okC (pgB 274) (((pgCd 274).drop 78).take 2) = true := by decide +kernel
theorem okS_274_40 : okC (pgB 274) (((pgCd 274).drop 80).take 2) = true := by decide +kernel
theorem okS_274_41 : okC (pgB 274) (((pgCd 274).drop 82).take 2) = true := by decide +kernel
theorem okS_274_42 : okC (pgB 274) (((pgCd 274).drop 84).take 2) = true := by decide +kernel
theorem okS_274_43 : okC (pgB 274) (((pgCd 274).drop 86).take 2) = true := by decide +kernel
theorem okS_274_44 : okC (pgB 274) (((pgCd 274).drop 88).take 2) = true := by decide +kernel
theorem okS_274_45 : okC (pgB 274) (((pgCd 274).drop 90).take 2) = true := by decide +kernel
theorem okS_274_46 : okC (pgB 274) (((pgCd 274).drop 92).take 2) = true := by decide +kernel
theorem okS_274_47 : okC (pgB 274) (((pgCd 274).drop 94).take 2) = true := by decide +kernel
theorem okS_274_48 : okC (pgB 274) (((pgCd 274).drop 96).take 2) = true := by decide +kernel
theorem okS_274_49 : okC (pgB 274) (((pgCd 274).drop 98).take 2) = true := by decide +kernel
theorem okS_274_50 : okC (pgB 274) (((pgCd 274).drop 100).take 2) = true := by decide +kernel
theorem okS_274_51 : okC (pgB 274) (((pgCd 274).drop 102).take 2) = true := by decide +kernel
theorem okS_274_52 : okC (pgB 274) (((pgCd 274).drop 104).take 2) = true := by decide +kernel
theorem okS_274_53 : okC (pgB 274) (((pgCd 274).drop 106).take 2) = true := by decide +kernel
theorem okS_274_54 : okC (pgB 274) (((pgCd 274).drop 108).take 2) = true := by decide +kernel
theorem okS_274_55 : okC (pgB 274) (((pgCd 274).drop 110).take 2) = true := by decide +kernel
theorem okS_274_56 : okC (pgB 274) (((pgCd 274).drop 112).take 2) = true := by decide +kernel
theorem okS_274_57 : okC (pgB 274) (((pgCd 274).drop 114).take 2) = true := by decide +kernel
theorem okS_274_58 : okC (pgB 274) (((pgCd 274).drop 116).take 2) = true := by decide +kernel
theorem okS_274_59 : okC (pgB 274) (((pgCd 274).drop 118).take 2) = true := by decide +kernel
theorem okS_274_60 : okC (pgB 274) (((pgCd 274).drop 120).take 2) = true := by decide +kernel
theorem okS_274_61 : okC (pgB 274) (((pgCd 274).drop 122).take 2) = true := by decide +kernel
theorem okS_274_62 : okC (pgB 274) (((pgCd 274).drop 124).take 2) = true := by decide +kernel
theorem okS_274_63 : okC (pgB 274) (((pgCd 274).drop 126).take 2) = true := by decide +kernel
theorem okS_274_64 : okC (pgB 274) (((pgCd 274).drop 128).take 2) = true := by decide +kernel
theorem okS_274_65 : okC (pgB 274) (((pgCd 274).drop 130).take 2) = true := by decide +kernel
theorem okS_274_66 : okC (pgB 274) (((pgCd 274).drop 132).take 2) = true := by decide +kernel
theorem okS_274_67 : okC (pgB 274) (((pgCd 274).drop 134).take 2) = true := by decide +kernel
theorem okS_274_68 : okC (pgB 274) (((pgCd 274).drop 136).take 2) = true := by decide +kernel
theorem okS_274_69 : okC (pgB 274) (((pgCd 274).drop 138).take 2) = true := by decide +kernel
theorem okS_274_70 : okC (pgB 274) (((pgCd 274).drop 140).take 2) = true := by decide +kernel
theorem okS_274_71 : okC (pgB 274) (((pgCd 274).drop 142).take 2) = true := by decide +kernel
theorem okS_274_72 : okC (pgB 274) (((pgCd 274).drop 144).take 2) = true := by decide +kernel
theorem okS_274_73 : okC (pgB 274) (((pgCd 274).drop 146).take 2) = true := by decide +kernel
theorem okS_274_74 : okC (pgB 274) (((pgCd 274).drop 148).take 2) = true := by decide +kernel
theorem okS_274_75 : okC (pgB 274) (((pgCd 274).drop 150).take 2) = true := by decide +kernel
theorem okS_274_76 : okC (pgB 274) (((pgCd 274).drop 152).take 2) = true := by decide +kernel
theorem okS_274_77 : okC (pgB 274) (((pgCd 274).drop 154).take 2) = true := by decide +kernel
theorem okS_274_78 : okC (pgB 274) (((pgCd 274).drop 156).take 2) = true := by decide +kernel
theorem okS_274_79 : okC (pgB 274) (((pgCd 274).drop 158).take 2) = true := by decide +kernel
theorem okS_274_80 : okC (pgB 274) (((pgCd 274).drop 160).take 2) = true := by decide +kernel
theorem okS_274_81 : okC (pgB 274) (((pgCd 274).drop 162).take 2) = true := by decide +kernel
theorem okS_274_82 : okC (pgB 274) (((pgCd 274).drop 164).take 2) = true := by decide +kernel
theorem okS_274_83 : okC (pgB 274) (((pgCd 274).drop 166).take 2) = true := by decide +kernel
theorem okS_274_84 : okC (pgB 274) (((pgCd 274).drop 168).take 2) = true := by decide +kernel
theorem okS_274_85 : okC (pgB 274) (((pgCd 274).drop 170).take 2) = true := by decide +kernel
theorem okS_274_86 : okC (pgB 274) (((pgCd 274).drop 172).take 2) = true := by decide +kernel
theorem okS_274_87 : okC (pgB 274) (((pgCd 274).drop 174).take 2) = true := by decide +kernel
theorem okS_274_88 : okC (pgB 274) (((pgCd 274).drop 176).take 2) = true := by decide +kernel
theorem okS_274_89 : okC (pgB 274) (((pgCd 274).drop 178).take 2) = true := by decide +kernel
theorem okS_274_90 : okC (pgB 274) (((pgCd 274).drop 180).take 2) = true := by decide +kernel
theorem okS_274_91 : okC (pgB 274) (((pgCd 274).drop 182).take 2) = true := by decide +kernel
theorem okS_274_92 : okC (pgB 274) (((pgCd 274).drop 184).take 2) = true := by decide +kernel
theorem okS_274_93 : okC (pgB 274) (((pgCd 274).drop 186).take 2) = true := by decide +kernel
theorem okS_274_94 : okC (pgB 274) (((pgCd 274).drop 188).take 2) = true := by decide +kernel
theorem okS_274_95 : okC (pgB 274) (((pgCd 274).drop 190).take 2) = true := by decide +kernel
theorem okS_274_96 : okC (pgB 274) (((pgCd 274).drop 192).take 2) = true := by decide +kernel
theorem okS_274_97 : okC (pgB 274) (((pgCd 274).drop 194).take 2) = true := by decide +kernel
theorem okS_274_98 : okC (pgB 274) (((pgCd 274).drop 196).take 2) = true := by decide +kernel
theorem okS_274_99 : okC (pgB 274) (((pgCd 274).drop 198).take 2) = true := by decide +kernel
theorem okS_274_100 : okC (pgB 274) (((pgCd 274).drop 200).take 2) = true := by decide +kernel
theorem okS_274_101 : okC (pgB 274) (((pgCd 274).drop 202).take 2) = true := by decide +kernel
theorem okS_274_102 : okC (pgB 274) (((pgCd 274).drop 204).take 2) = true := by decide +kernel
theorem okS_274_103 : okC (pgB 274) (((pgCd 274).drop 206).take 2) = true := by decide +kernel
theorem okS_274_104 : okC (pgB 274) (((pgCd 274).drop 208).take 2) = true := by decide +kernel
theorem okS_274_105 : okC (pgB 274) (((pgCd 274).drop 210).take 2) = true := by decide +kernel
theorem okS_274_106 : okC (pgB 274) (((pgCd 274).drop 212).take 2) = true := by decide +kernel
theorem okS_274_107 : okC (pgB 274) (((pgCd 274).drop 214).take 2) = true := by decide +kernel
theorem okS_274_108 : okC (pgB 274) (((pgCd 274).drop 216).take 2) = true := by decide +kernel
theorem okS_274_109 : okC (pgB 274) (((pgCd 274).drop 218).take 2) = true := by decide +kernel
theorem okS_274_110 : okC (pgB 274) (((pgCd 274).drop 220).take 2) = true := by decide +kernel
theorem okS_274_111 : okC (pgB 274) (((pgCd 274).drop 222).take 2) = true := by decide +kernel
theorem okS_274_112 : okC (pgB 274) (((pgCd 274).drop 224).take 2) = true := by decide +kernel
theorem okS_274_113 : okC (pgB 274) (((pgCd 274).drop 226).take 2) = true := by decide +kernel
theorem okS_274_114 : okC (pgB 274) (((pgCd 274).drop 228).take 2) = true := by decide +kernel
theorem okS_274_115 : okC (pgB 274) (((pgCd 274).drop 230).take 2) = true := by decide +kernel
theorem okS_274_116 : okC (pgB 274) (((pgCd 274).drop 232).take 2) = true := by decide +kernel
theorem okS_274_117 : okC (pgB 274) (((pgCd 274).drop 234).take 2) = true := by decide +kernel
theorem okS_274_118 : okC (pgB 274) (((pgCd 274).drop 236).take 2) = true := by decide +kernel
theorem okS_274_119 : okC (pgB 274) (((pgCd 274).drop 238).take 1) = true := by decide +kernel
theorem okCd_274 : okC (pgB 274) (pgCd 274) = true := by
  have hz : okC (pgB 274) ((pgCd 274).drop 239) = true := by decide +kernel
  have hz : okC (pgB 274) ((pgCd 274).drop 238) = true := okC_cat _ 1 238 _ okS_274_119 hz
  have hz : okC (pgB 274) ((pgCd 274).drop 236) = true := okC_cat _ 2 236 _ okS_274_118 hz
  have hz : okC (pgB 274) ((pgCd 274).drop 234) = true := okC_cat _ 2 234 _ okS_274_117 hz
  have hz : okC (pgB 274) ((pgCd 274).drop 232) = true := okC_cat _ 2 232 _ okS_274_116 hz
  have hz : okC (pgB 274) ((pgCd 274).drop 230) = true := okC_cat _ 2 230 _ okS_274_115 hz
  have hz : okC (pgB 274) ((pgCd 274).drop 228) = true := okC_cat _ 2 228 _ okS_274_114 hz
  have hz : okC (pgB 274) ((pgCd 274).drop 226) = true := okC_cat _ 2 226 _ okS_274_113 hz
  have hz : okC (pgB 274) ((pgCd 274).drop 224) = true := okC_cat _ 2 224 _ okS_274_112 hz
  have hz : okC (pgB 274) ((pgCd 274).drop 222) = true := okC_cat _ 2 222 _ okS_274_111 hz
  have hz : okC (pgB 274) ((pgCd 274).drop 220) = true := okC_cat _ 2 220 _ okS_274_110 hz
  have hz : okC (pgB 274) ((pgCd 274).drop 218) = true := okC_cat _ 2 218 _ okS_274_109 hz
  have hz : okC (pgB 274) ((pgCd 274).drop 216) = true := okC_cat _ 2 216 _ okS_274_108 hz
  have hz : okC (pgB 274) ((pgCd 274).drop 214) = true := okC_cat _ 2 214 _ okS_274_107 hz
  have hz : okC (pgB 274) ((pgCd 274).drop 212) = true := okC_cat _ 2 212 _ okS_274_106 hz
  have hz : okC (pgB 274) ((pgCd 274).drop 210) = true := okC_cat _ 2 210 _ okS_274_105 hz
  have hz : okC (pgB 274) ((pgCd 274).drop 208) = true := okC_cat _ 2 208 _ okS_274_104 hz
  have hz : okC (pgB 274) ((pgCd 274).drop 206) = true := okC_cat _ 2 206 _ okS_274_103 hz
  have hz : okC (pgB 274) ((pgCd 274).drop 204) = true := okC_cat _ 2 204 _ okS_274_102 hz
  have hz : okC (pgB 274) ((pgCd 274).drop 202) = true := okC_cat _ 2 202 _ okS_274_101 hz
  have hz : okC (pgB 274) ((pgCd 274).drop 200) = true := okC_cat _ 2 200 _ okS_274_100 hz
  have hz : okC (pgB 274) ((pgCd 274).drop 198) = true := okC_cat _ 2 198 _ okS_274_99 hz
  have hz : okC (pgB 274) ((pgCd 274).drop 196) = true := okC_cat _ 2 196 _ okS_274_98 hz
  have hz : okC (pgB 274) ((pgCd 274).drop 194) = true := okC_cat _ 2 194 _ okS_274_97 hz
  have hz : okC (pgB 274) ((pgCd 274).drop 192) = true := okC_cat _ 2 192 _ okS_274_96 hz
  have hz : okC (pgB 274) ((pgCd 274).drop 190) = true := okC_cat _ 2 190 _ okS_274_95 hz
  have hz : okC (pgB 274) ((pgCd 274).drop 188) = true := okC_cat _ 2 188 _ okS_274_94 hz
  have hz : okC (pgB 274) ((pgCd 274).drop 186) = true := okC_cat _ 2 186 _ okS_274_93 hz
  have hz : okC (pgB 274) ((pgCd 274).drop 184) = true := okC_cat _ 2 184 _ okS_274_92 hz
  have hz : okC (pgB 274) ((pgCd 274).drop 182) = true := okC_cat _ 2 182 _ okS_274_91 hz
  have hz : okC (pgB 274) ((pgCd 274).drop 180) = true := okC_cat _ 2 180 _ okS_274_90 hz
  have hz : okC (pgB 274) ((pgCd 274).drop 178) = true := okC_cat _ 2 178 _ okS_274_89 hz
  have hz : okC (pgB 274) ((pgCd 274).drop 176) = true := okC_cat _ 2 176 _ okS_274_88 hz
  have hz : okC (pgB 274) ((pgCd 274).drop 174) = true := okC_cat _ 2 174 _ okS_274_87 hz
  have hz : okC (pgB 274) ((pgCd 274).drop 172) = true := okC_cat _ 2 172 _ okS_274_86 hz
  have hz : okC (pgB 274) ((pgCd 274).drop 170) = true := okC_cat _ 2 170 _ okS_274_85 hz
  have hz : okC (pgB 274) ((pgCd 274).drop 168) = true := okC_cat _ 2 168 _ okS_274_84 hz
  have hz : okC (pgB 274) ((pgCd 274).drop 166) = true := okC_cat _ 2 166 _ okS_274_83 hz
  have hz : okC (pgB 274) ((pgCd 274).drop 164) = true := okC_cat _ 2 164 _ okS_274_82 hz
  have hz : okC (pgB 274) ((pgCd 274).drop 162) = true := okC_cat _ 2 162 _ okS_274_81 hz
  have hz : okC (pgB 274) ((pgCd 274).drop 160) = true := okC_cat _ 2 160 _ okS_274_80 hz
  have hz : okC (pgB 274) ((pgCd 274).drop 158) = true := okC_cat _ 2 158 _ okS_274_79 hz
  have hz : okC (pgB 274) ((pgCd 274).drop 156) = true := okC_cat _ 2 156 _ okS_274_78 hz
  have hz : okC (pgB 274) ((pgCd 274).drop 154) = true := okC_cat _ 2 154 _ okS_274_77 hz
  have hz : okC (pgB 274) ((pgCd 274).drop 152) = true := okC_cat _ 2 152 _ okS_274_76 hz
  have hz : okC (pgB 274) ((pgCd 274).drop 150) = true := okC_cat _ 2 150 _ okS_274_75 hz
  have hz : okC (pgB 274) ((pgCd 274).drop 148) = true := okC_cat _ 2 148 _ okS_274_74 hz
  have hz : okC (pgB 274) ((pgCd 274).drop 146) = true := okC_cat _ 2 146 _ okS_274_73 hz
  have hz : okC (pgB 274) ((pgCd 274).drop 144) = true := okC_cat _ 2 144 _ okS_274_72 hz
  have hz : okC (pgB 274) ((pgCd 274).drop 142) = true := okC_cat _ 2 142 _ okS_274_71 hz
  have hz : okC (pgB 274) ((pgCd 274).drop 140) = true := okC_cat _ 2 140 _ okS_274_70 hz
  have hz : okC (pgB 274) ((pgCd 274).drop 138) = true := okC_cat _ 2 138 _ okS_274_69 hz
  have hz : okC (pgB 274) ((pgCd 274).drop 136) = true := okC_cat _ 2 136 _ okS_274_68 hz
  have hz : okC (pgB 274) ((pgCd 274).drop 134) = true := okC_cat _ 2 134 _ okS_274_67 hz
  have hz : okC (pgB 274) ((pgCd 274).drop 132) = true := okC_cat _ 2 132 _ okS_274_66 hz
  have hz : okC (pgB 274) ((pgCd 274).drop 130) = true := okC_cat _ 2 130 _ okS_274_65 hz
  have hz : okC (pgB 274) ((pgCd 274).drop 128) = true := okC_cat _ 2 128 _ okS_274_64 hz
  have hz : okC (pgB 274) ((pgCd 274).drop 126) = true := okC_cat _ 2 126 _ okS_274_63 hz
  have hz : okC (pgB 274) ((pgCd 274).drop 124) = true := okC_cat _ 2 124 _ okS_274_62 hz
  have hz : okC (pgB 274) ((pgCd 274).drop 122) = true := okC_cat _ 2 122 _ okS_274_61 hz
  have hz : okC (pgB 274) ((pgCd 274).drop 120) = true := okC_cat _ 2 120 _ okS_274_60 hz
  have hz : okC (pgB 274) ((pgCd 274).drop 118) = true := okC_cat _ 2 118 _ okS_274_59 hz
  have hz : okC (pgB 274) ((pgCd 274).drop 116) = true := okC_cat _ 2 116 _ okS_274_58 hz
  have hz : okC (pgB 274) ((pgCd 274).drop 114) = true := okC_cat _ 2 114 _ okS_274_57 hz
  have hz : okC (pgB 274) ((pgCd 274).drop 112) = true := okC_cat _ 2 112 _ okS_274_56 hz
  have hz : okC (pgB 274) ((pgCd 274).drop 110) = true := okC_cat _ 2 110 _ okS_274_55 hz
  have hz : okC (pgB 274) ((pgCd 274).drop 108) = true := okC_cat _ 2 108 _ okS_274_54 hz
  have hz : okC (pgB 274) ((pgCd 274).drop 106) = true := okC_cat _ 2 106 _ okS_274_53 hz
  have hz : okC (pgB 274) ((pgCd 274).drop 104) = true := okC_cat _ 2 104 _ okS_274_52 hz
  have hz : okC (pgB 274) ((pgCd 274).drop 102) = true := okC_cat _ 2 102 _ okS_274_51 hz
  have hz : okC (pgB 274) ((pgCd 274).drop 100) = true := okC_cat _ 2 100 _ okS_274_50 hz
  have hz : okC (pgB 274) ((pgCd 274).drop 98) = true := okC_cat _ 2 98 _ okS_274_49 hz
  have hz : okC (pgB 274) ((pgCd 274).drop 96) = true := okC_cat _ 2 96 _ okS_274_48 hz
  have hz : okC (pgB 274) ((pgCd 274).drop 94) = true := okC_cat _ 2 94 _ okS_274_47 hz
  have hz : okC (pgB 274) ((pgCd 274).drop 92) = true := okC_cat _ 2 92 _ okS_274_46 hz
  have hz : okC (pgB 274) ((pgCd 274).drop 90) = true := okC_cat _ 2 90 _ okS_274_45 hz
  have hz : okC (pgB 274) ((pgCd 274).drop 88) = true := okC_cat _ 2 88 _ okS_274_44 hz
  have hz : okC (pgB 274) ((pgCd 274).drop 86) = true := okC_cat _ 2 86 _ okS_274_43 hz
  have hz : okC (pgB 274) ((pgCd 274).drop 84) = true := okC_cat _ 2 84 _ okS_274_42 hz
  have hz : okC (pgB 274) ((pgCd 274).drop 82) = true := okC_cat _ 2 82 _ okS_274_41 hz
  have hz : okC (pgB 274) ((pgCd 274).drop 80) = true := okC_cat _ 2 80 _ okS_274_40 hz
  have hz : okC (pgB 274) ((pgCd 274).drop 78) = true := okC_cat _ 2 78 _ okS_274_39 hz
  have hz : okC (pgB 274) ((pgCd 274).drop 76) = true := okC_cat _ 2 76 _ okS_274_38 hz
  have hz : okC (pgB 274) ((pgCd 274).drop 74) = true := okC_cat _ 2 74 _ okS_274_37 hz
  have hz : okC (pgB 274) ((pgCd 274).drop 72) = true := okC_cat _ 2 72 _ okS_274_36 hz
  have hz : okC (pgB 274) ((pgCd 274).drop 70) = true := okC_cat _ 2 70 _ okS_274_35 hz
  have hz : okC (pgB 274) ((pgCd 274).drop 68) = true := okC_cat _ 2 68 _ okS_274_34 hz
  have hz : okC (pgB 274) ((pgCd 274).drop 66) = true := okC_cat _ 2 66 _ okS_274_33 hz
  have hz : okC (pgB 274) ((pgCd 274).drop 64) = true := okC_cat _ 2 64 _ okS_274_32 hz
  have hz : okC (pgB 274) ((pgCd 274).drop 62) = true := okC_cat _ 2 62 _ okS_274_31 hz
  have hz : okC (pgB 274) ((pgCd 274).drop 60) = true := okC_cat _ 2 60 _ okS_274_30 hz
  have hz : okC (pgB 274) ((pgCd 274).drop 58) = true := okC_cat _ 2 58 _ okS_274_29 hz
  have hz : okC (pgB 274) ((pgCd 274).drop 56) = true := okC_cat _ 2 56 _ okS_274_28 hz
  have hz : okC (pgB 274) ((pgCd 274).drop 54) = true := okC_cat _ 2 54 _ okS_274_27 hz
  have hz : okC (pgB 274) ((pgCd 274).drop 52) = true := okC_cat _ 2 52 _ okS_274_26 hz
  have hz : okC (pgB 274) ((pgCd 274).drop 50) = true := okC_cat _ 2 50 _ okS_274_25 hz
  have hz : okC (pgB 274) ((pgCd 274).drop 48) = true := okC_cat _ 2 48 _ okS_274_24 hz
  have hz : okC (pgB 274) ((pgCd 274).drop 46) = true := okC_cat _ 2 46 _ okS_274_23 hz
  have hz : okC (pgB 274) ((pgCd 274).drop 44) = true := okC_cat _ 2 44 _ okS_274_22 hz
  have hz : okC (pgB 274) ((pgCd 274).drop 42) = true := okC_cat _ 2 42 _ okS_274_21 hz
  have hz : okC (pgB 274) ((pgCd 274).drop 40) = true := okC_cat _ 2 40 _ okS_274_20 hz
  have hz : okC (pgB 274) ((pgCd 274).drop 38) = true := okC_cat _ 2 38 _ okS_274_19 hz
  have hz : okC (pgB 274) ((pgCd 274).drop 36) = true := okC_cat _ 2 36 _ okS_274_18 hz
  have hz : okC (pgB 274) ((pgCd 274).drop 34) = true := okC_cat _ 2 34 _ okS_274_17 hz
  have hz : okC (pgB 274) ((pgCd 274).drop 32) = true := okC_cat _ 2 32 _ okS_274_16 hz
  have hz : okC (pgB 274) ((pgCd 274).drop 30) = true := okC_cat _ 2 30 _ okS_274_15 hz
  have hz : okC (pgB 274) ((pgCd 274).drop 28) = true := okC_cat _ 2 28 _ okS_274_14 hz
  have hz : okC (pgB 274) ((pgCd 274).drop 26) = true := okC_cat _ 2 26 _ okS_274_13 hz
  have hz : okC (pgB 274) ((pgCd 274).drop 24) = true := okC_cat _ 2 24 _ okS_274_12 hz
  have hz : okC (pgB 274) ((pgCd 274).drop 22) = true := okC_cat _ 2 22 _ okS_274_11 hz
  have hz : okC (pgB 274) ((pgCd 274).drop 20) = true := okC_cat _ 2 20 _ okS_274_10 hz
  have hz : okC (pgB 274) ((pgCd 274).drop 18) = true := okC_cat _ 2 18 _ okS_274_9 hz
  have hz : okC (pgB 274) ((pgCd 274).drop 16) = true := okC_cat _ 2 16 _ okS_274_8 hz
  have hz : okC (pgB 274) ((pgCd 274).drop 14) = true := okC_cat _ 2 14 _ okS_274_7 hz
  have hz : okC (pgB 274) ((pgCd 274).drop 12) = true := okC_cat _ 2 12 _ okS_274_6 hz
  have hz : okC (pgB 274) ((pgCd 274).drop 10) = true := okC_cat _ 2 10 _ okS_274_5 hz
  have hz : okC (pgB 274) ((pgCd 274).drop 8) = true := okC_cat _ 2 8 _ okS_274_4 hz
  have hz : okC (pgB 274) ((pgCd 274).drop 6) = true := okC_cat _ 2 6 _ okS_274_3 hz
  have hz : okC (pgB 274) ((pgCd 274).drop 4) = true := okC_cat _ 2 4 _ okS_274_2 hz
  have hz : okC (pgB 274) ((pgCd 274).drop 2) = true := okC_cat _ 2 2 _ okS_274_1 hz
  have hz : okC (pgB 274) ((pgCd 274).drop 0) = true := okC_cat _ 2 0 _ okS_274_0 hz
  exact hz
theorem okMid_274 : okMid 274 = true := by unfold okMid; rw [okCd_274]; rfl
