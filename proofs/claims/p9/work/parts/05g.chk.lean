theorem okS_219_0 : okC (pgB 219) (((pgCd 219).drop 0).take 4) = true := by decide +kernel
theorem okS_219_1 : okC (pgB 219) (((pgCd 219).drop 4).take 4) = true := by decide +kernel
theorem okS_219_2 : okC (pgB 219) (((pgCd 219).drop 8).take 4) = true := by decide +kernel
theorem okS_219_3 : okC (pgB 219) (((pgCd 219).drop 12).take 1) = true := by decide +kernel
theorem okM_219 : okM (pgRw 219) = true := by decide +kernel
theorem okCd_219 : okC (pgB 219) (pgCd 219) = true := by
  have hz : okC (pgB 219) ((pgCd 219).drop 13) = true := by decide +kernel
  have hz : okC (pgB 219) ((pgCd 219).drop 12) = true := okC_cat _ 1 12 _ okS_219_3 hz
  have hz : okC (pgB 219) ((pgCd 219).drop 8) = true := okC_cat _ 4 8 _ okS_219_2 hz
  have hz : okC (pgB 219) ((pgCd 219).drop 4) = true := okC_cat _ 4 4 _ okS_219_1 hz
  have hz : okC (pgB 219) ((pgCd 219).drop 0) = true := okC_cat _ 4 0 _ okS_219_0 hz
  exact hz
theorem okMid_219 : okMid 219 = true := by unfold okMid; rw [okCd_219, okM_219]; rfl
theorem okS_220_0 : okC (pgB 220) (((pgCd 220).drop 0).take 4) = true := by decide +kernel
theorem okS_220_1 : okC (pgB 220) (((pgCd 220).drop 4).take 3) = true := by decide +kernel
theorem okM_220 : okM (pgRw 220) = true := by decide +kernel
theorem okCd_220 : okC (pgB 220) (pgCd 220) = true := by
  have hz : okC (pgB 220) ((pgCd 220).drop 7) = true := by decide +kernel
  have hz : okC (pgB 220) ((pgCd 220).drop 4) = true := okC_cat _ 3 4 _ okS_220_1 hz
  have hz : okC (pgB 220) ((pgCd 220).drop 0) = true := okC_cat _ 4 0 _ okS_220_0 hz
  exact hz
theorem okMid_220 : okMid 220 = true := by unfold okMid; rw [okCd_220, okM_220]; rfl
theorem okS_221_0 : okC (pgB 221) (((pgCd 221).drop 0).take 4) = true := by decide +kernel
theorem okS_221_1 : okC (pgB 221) (((pgCd 221).drop 4).take 4) = true := by decide +kernel
theorem okS_221_2 : okC (pgB 221) (((pgCd 221).drop 8).take 4) = true := by decide +kernel
theorem okS_221_3 : okC (pgB 221) (((pgCd 221).drop 12).take 4) = true := by decide +kernel
theorem okM_221 : okM (pgRw 221) = true := by decide +kernel
theorem okCd_221 : okC (pgB 221) (pgCd 221) = true := by
  have hz : okC (pgB 221) ((pgCd 221).drop 16) = true := by decide +kernel
  have hz : okC (pgB 221) ((pgCd 221).drop 12) = true := okC_cat _ 4 12 _ okS_221_3 hz
  have hz : okC (pgB 221) ((pgCd 221).drop 8) = true := okC_cat _ 4 8 _ okS_221_2 hz
  have hz : okC (pgB 221) ((pgCd 221).drop 4) = true := okC_cat _ 4 4 _ okS_221_1 hz
  have hz : okC (pgB 221) ((pgCd 221).drop 0) = true := okC_cat _ 4 0 _ okS_221_0 hz
  exact hz
theorem okMid_221 : okMid 221 = true := by unfold okMid; rw [okCd_221, okM_221]; rfl
theorem okS_222_0 : okC (pgB 222) (((pgCd 222).drop 0).take 4) = true := by decide +kernel
theorem okS_222_1 : okC (pgB 222) (((pgCd 222).drop 4).take 4) = true := by decide +kernel
theorem okM_222 : okM (pgRw 222) = true := by decide +kernel
theorem okCd_222 : okC (pgB 222) (pgCd 222) = true := by
  have hz : okC (pgB 222) ((pgCd 222).drop 8) = true := by decide +kernel
  have hz : okC (pgB 222) ((pgCd 222).drop 4) = true := okC_cat _ 4 4 _ okS_222_1 hz
  have hz : okC (pgB 222) ((pgCd 222).drop 0) = true := okC_cat _ 4 0 _ okS_222_0 hz
  exact hz
theorem okMid_222 : okMid 222 = true := by unfold okMid; rw [okCd_222, okM_222]; rfl
theorem okS_223_0 : okC (pgB 223) (((pgCd 223).drop 0).take 4) = true := by decide +kernel
theorem okS_223_1 : okC (pgB 223) (((pgCd 223).drop 4).take 4) = true := by decide +kernel
theorem okS_223_2 : okC (pgB 223) (((pgCd 223).drop 8).take 4) = true := by decide +kernel
theorem okS_223_3 : okC (pgB 223) (((pgCd 223).drop 12).take 4) = true := by decide +kernel
theorem okM_223 : okM (pgRw 223) = true := by decide +kernel
theorem okCd_223 : okC (pgB 223) (pgCd 223) = true := by
  have hz : okC (pgB 223) ((pgCd 223).drop 16) = true := by decide +kernel
  have hz : okC (pgB 223) ((pgCd 223).drop 12) = true := okC_cat _ 4 12 _ okS_223_3 hz
  have hz : okC (pgB 223) ((pgCd 223).drop 8) = true := okC_cat _ 4 8 _ okS_223_2 hz
  have hz : okC (pgB 223) ((pgCd 223).drop 4) = true := okC_cat _ 4 4 _ okS_223_1 hz
  have hz : okC (pgB 223) ((pgCd 223).drop 0) = true := okC_cat _ 4 0 _ okS_223_0 hz
  exact hz
theorem okMid_223 : okMid 223 = true := by unfold okMid; rw [okCd_223, okM_223]; rfl
theorem okMid_224 : okMid 224 = true := by decide +kernel
theorem okMid_225 : okMid 225 = true := by decide +kernel
theorem okS_226_0 : okC (pgB 226) (((pgCd 226).drop 0).take 4) = true := by decide +kernel
theorem okS_226_1 : okC (pgB 226) (((pgCd 226).drop 4).take 4) = true := by decide +kernel
theorem okS_226_2 : okC (pgB 226) (((pgCd 226).drop 8).take 2) = true := by decide +kernel
theorem okM_226 : okM (pgRw 226) = true := by decide +kernel
theorem okCd_226 : okC (pgB 226) (pgCd 226) = true := by
  have hz : okC (pgB 226) ((pgCd 226).drop 10) = true := by decide +kernel
  have hz : okC (pgB 226) ((pgCd 226).drop 8) = true := okC_cat _ 2 8 _ okS_226_2 hz
  have hz : okC (pgB 226) ((pgCd 226).drop 4) = true := okC_cat _ 4 4 _ okS_226_1 hz
  have hz : okC (pgB 226) ((pgCd 226).drop 0) = true := okC_cat _ 4 0 _ okS_226_0 hz
  exact hz
theorem okMid_226 : okMid 226 = true := by unfold okMid; rw [okCd_226, okM_226]; rfl
theorem okS_227_0 : okC (pgB 227) (((pgCd 227).drop 0).take 4) = true := by decide +kernel
theorem okS_227_1 : okC (pgB 227) (((pgCd 227).drop 4).take 4) = true := by decide +kernel
theorem okS_227_2 : okC (pgB 227) (((pgCd 227).drop 8).take 2) = true := by decide +kernel
theorem okM_227 : okM (pgRw 227) = true := by decide +kernel
theorem okCd_227 : okC (pgB 227) (pgCd 227) = true := by
  have hz : okC (pgB 227) ((pgCd 227).drop 10) = true := by decide +kernel
  have hz : okC (pgB 227) ((pgCd 227).drop 8) = true := okC_cat _ 2 8 _ okS_227_2 hz
  have hz : okC (pgB 227) ((pgCd 227).drop 4) = true := okC_cat _ 4 4 _ okS_227_1 hz
  have hz : okC (pgB 227) ((pgCd 227).drop 0) = true := okC_cat _ 4 0 _ okS_227_0 hz
  exact hz
theorem okMid_227 : okMid 227 = true := by unfold okMid; rw [okCd_227, okM_227]; rfl
theorem okS_228_0 : okC (pgB 228) (((pgCd 228).drop 0).take 4) = true := by decide +kernel
theorem okS_228_1 : okC (pgB 228) (((pgCd 228).drop 4).take 4) = true := by decide +kernel
theorem okS_228_2 : okC (pgB 228) (((pgCd 228).drop 8).take 4) = true := by decide +kernel
theorem okS_228_3 : okC (pgB 228) (((pgCd 228).drop 12).take 2) = true := by decide +kernel
theorem okM_228 : okM (pgRw 228) = true := by decide +kernel
theorem okCd_228 : okC (pgB 228) (pgCd 228) = true := by
  have hz : okC (pgB 228) ((pgCd 228).drop 14) = true := by decide +kernel
  have hz : okC (pgB 228) ((pgCd 228).drop 12) = true := okC_cat _ 2 12 _ okS_228_3 hz
  have hz : okC (pgB 228) ((pgCd 228).drop 8) = true := okC_cat _ 4 8 _ okS_228_2 hz
  have hz : okC (pgB 228) ((pgCd 228).drop 4) = true := okC_cat _ 4 4 _ okS_228_1 hz
  have hz : okC (pgB 228) ((pgCd 228).drop 0) = true := okC_cat _ 4 0 _ okS_228_0 hz
  exact hz
theorem okMid_228 : okMid 228 = true := by unfold okMid; rw [okCd_228, okM_228]; rfl
theorem okS_229_0 : okC (pgB 229) (((pgCd 229).drop 0).take 4) = true := by decide +kernel
theorem okS_229_1 : okC (pgB 229) (((pgCd 229).drop 4).take 4) = true := by decide +kernel
theorem okS_229_2 : okC (pgB 229) (((pgCd 229).drop 8).take 4) = true := by decide +kernel
theorem okS_229_3 : okC (pgB 229) (((pgCd 229).drop 12).take 4) = true := by decide +kernel
theorem okS_229_4 : okC (pgB 229) (((pgCd 229).drop 16).take 4) = true := by decide +kernel
theorem okS_229_5 : okC (pgB 229) (((pgCd 229).drop 20).take 4) = true := by decide +kernel
theorem okS_229_6 : okC (pgB 229) (((pgCd 229).drop 24).take 4) = true := by decide +kernel
theorem okS_229_7 : okC (pgB 229) (((pgCd 229).drop 28).take 4) = true := by decide +kernel
theorem okS_229_8 : okC (pgB 229) (((pgCd 229).drop 32).take 4) = true := by decide +kernel
theorem okS_229_9 : okC (pgB 229) (((pgCd 229).drop 36).take 1) = true := by decide +kernel
theorem okM_229 : okM (pgRw 229) = true := by decide +kernel
theorem okCd_229 : okC (pgB 229) (pgCd 229) = true := by
  have hz : okC (pgB 229) ((pgCd 229).drop 37) = true := by decide +kernel
  have hz : okC (pgB 229) ((pgCd 229).drop 36) = true := okC_cat _ 1 36 _ okS_229_9 hz
  have hz : okC (pgB 229) ((pgCd 229).drop 32) = true := okC_cat _ 4 32 _ okS_229_8 hz
  have hz : okC (pgB 229) ((pgCd 229).drop 28) = true := okC_cat _ 4 28 _ okS_229_7 hz
  have hz : okC (pgB 229) ((pgCd 229).drop 24) = true := okC_cat _ 4 24 _ okS_229_6 hz
  have hz : okC (pgB 229) ((pgCd 229).drop 20) = true := okC_cat _ 4 20 _ okS_229_5 hz
  have hz : okC (pgB 229) ((pgCd 229).drop 16) = true := okC_cat _ 4 16 _ okS_229_4 hz
  have hz : okC (pgB 229) ((pgCd 229).drop 12) = true := okC_cat _ 4 12 _ okS_229_3 hz
  have hz : okC (pgB 229) ((pgCd 229).drop 8) = true := okC_cat _ 4 8 _ okS_229_2 hz
  have hz : okC (pgB 229) ((pgCd 229).drop 4) = true := okC_cat _ 4 4 _ okS_229_1 hz
  have hz : okC (pgB 229) ((pgCd 229).drop 0) = true := okC_cat _ 4 0 _ okS_229_0 hz
  exact hz
theorem okMid_229 : okMid 229 = true := by unfold okMid; rw [okCd_229, okM_229]; rfl
theorem okS_230_0 : okC (pgB 230) (((pgCd 230).drop 0).take 4) = true := by decide +kernel
theorem okS_230_1 : okC (pgB 230) (((pgCd 230).drop 4).take 3) = true := by decide +kernel
theorem okM_230 : okM (pgRw 230) = true := by decide +kernel
theorem okCd_230 : okC (pgB 230) (pgCd 230) = true := by
  have hz : okC (pgB 230) ((pgCd 230).drop 7) = true := by decide +kernel
  have hz : okC (pgB 230) ((pgCd 230).drop 4) = true := okC_cat _ 3 4 _ okS_230_1 hz
  have hz : okC (pgB 230) ((pgCd 230).drop 0) = true := okC_cat _ 4 0 _ okS_230_0 hz
  exact hz
theorem okMid_230 : okMid 230 = true := by unfold okMid; rw [okCd_230, okM_230]; rfl
theorem okS_231_0 : okC (pgB 231) (((pgCd 231).drop 0).take 4) = true := by decide +kernel
theorem okS_231_1 : okC (pgB 231) (((pgCd 231).drop 4).take 4) = true := by decide +kernel
theorem okS_231_2 : okC (pgB 231) (((pgCd 231).drop 8).take 2) = true := by decide +kernel
theorem okM_231 : okM (pgRw 231) = true := by decide +kernel
theorem okCd_231 : okC (pgB 231) (pgCd 231) = true := by
  have hz : okC (pgB 231) ((pgCd 231).drop 10) = true := by decide +kernel
  have hz : okC (pgB 231) ((pgCd 231).drop 8) = true := okC_cat _ 2 8 _ okS_231_2 hz
  have hz : okC (pgB 231) ((pgCd 231).drop 4) = true := okC_cat _ 4 4 _ okS_231_1 hz
  have hz : okC (pgB 231) ((pgCd 231).drop 0) = true := okC_cat _ 4 0 _ okS_231_0 hz
  exact hz
theorem okMid_231 : okMid 231 = true := by unfold okMid; rw [okCd_231, okM_231]; rfl
theorem okS_232_0 : okC (pgB 232) (((pgCd 232).drop 0).take 4) = true := by decide +kernel
theorem okS_232_1 : okC (pgB 232) (((pgCd 232).drop 4).take 4) = true := by decide +kernel
theorem okS_232_2 : okC (pgB 232) (((pgCd 232).drop 8).take 1) = true := by decide +kernel
theorem okM_232 : okM (pgRw 232) = true := by decide +kernel
theorem okCd_232 : okC (pgB 232) (pgCd 232) = true := by
  have hz : okC (pgB 232) ((pgCd 232).drop 9) = true := by decide +kernel
  have hz : okC (pgB 232) ((pgCd 232).drop 8) = true := okC_cat _ 1 8 _ okS_232_2 hz
  have hz : okC (pgB 232) ((pgCd 232).drop 4) = true := okC_cat _ 4 4 _ okS_232_1 hz
  have hz : okC (pgB 232) ((pgCd 232).drop 0) = true := okC_cat _ 4 0 _ okS_232_0 hz
  exact hz
theorem okMid_232 : okMid 232 = true := by unfold okMid; rw [okCd_232, okM_232]; rfl
theorem okMid_233 : okMid 233 = true := by decide +kernel
theorem okMid_234 : okMid 234 = true := by decide +kernel
theorem okS_235_0 : okC (pgB 235) (((pgCd 235).drop 0).take 4) = true := by decide +kernel
theorem okS_235_1 : okC (pgB 235) (((pgCd 235).drop 4).take 4) = true := by decide +kernel
theorem okS_235_2 : okC (pgB 235) (((pgCd 235).drop 8).take 1) = true := by decide +kernel
theorem okM_235 : okM (pgRw 235) = true := by decide +kernel
theorem okCd_235 : okC (pgB 235) (pgCd 235) = true := by
  have hz : okC (pgB 235) ((pgCd 235).drop 9) = true := by decide +kernel
  have hz : okC (pgB 235) ((pgCd 235).drop 8) = true := okC_cat _ 1 8 _ okS_235_2 hz
  have hz : okC (pgB 235) ((pgCd 235).drop 4) = true := okC_cat _ 4 4 _ okS_235_1 hz
  have hz : okC (pgB 235) ((pgCd 235).drop 0) = true := okC_cat _ 4 0 _ okS_235_0 hz
  exact hz
theorem okMid_235 : okMid 235 = true := by unfold okMid; rw [okCd_235, okM_235]; rfl
theorem okS_236_0 : okC (pgB 236) (((pgCd 236).drop 0).take 4) = true := by decide +kernel
theorem okS_236_1 : okC (pgB 236) (((pgCd 236).drop 4).take 4) = true := by decide +kernel
theorem okS_236_2 : okC (pgB 236) (((pgCd 236).drop 8).take 4) = true := by decide +kernel
theorem okS_236_3 : okC (pgB 236) (((pgCd 236).drop 12).take 4) = true := by decide +kernel
theorem okS_236_4 : okC (pgB 236) (((pgCd 236).drop 16).take 4) = true := by decide +kernel
theorem okS_236_5 : okC (pgB 236) (((pgCd 236).drop 20).take 4) = true := by decide +kernel
theorem okS_236_6 : okC (pgB 236) (((pgCd 236).drop 24).take 4) = true := by decide +kernel
theorem okS_236_7 : okC (pgB 236) (((pgCd 236).drop 28).take 2) = true := by decide +kernel
theorem okM_236 : okM (pgRw 236) = true := by decide +kernel
theorem okCd_236 : okC (pgB 236) (pgCd 236) = true := by
  have hz : okC (pgB 236) ((pgCd 236).drop 30) = true := by decide +kernel
  have hz : okC (pgB 236) ((pgCd 236).drop 28) = true := okC_cat _ 2 28 _ okS_236_7 hz
  have hz : okC (pgB 236) ((pgCd 236).drop 24) = true := okC_cat _ 4 24 _ okS_236_6 hz
  have hz : okC (pgB 236) ((pgCd 236).drop 20) = true := okC_cat _ 4 20 _ okS_236_5 hz
  have hz : okC (pgB 236) ((pgCd 236).drop 16) = true := okC_cat _ 4 16 _ okS_236_4 hz
  have hz : okC (pgB 236) ((pgCd 236).drop 12) = true := okC_cat _ 4 12 _ okS_236_3 hz
  have hz : okC (pgB 236) ((pgCd 236).drop 8) = true := okC_cat _ 4 8 _ okS_236_2 hz
  have hz : okC (pgB 236) ((pgCd 236).drop 4) = true := okC_cat _ 4 4 _ okS_236_1 hz
  have hz : okC (pgB 236) ((pgCd 236).drop 0) = true := okC_cat _ 4 0 _ okS_236_0 hz
  exact hz
theorem okMid_236 : okMid 236 = true := by unfold okMid; rw [okCd_236, okM_236]; rfl
theorem okS_237_0 : okC (pgB 237) (((pgCd 237).drop 0).take 4) = true := by decide +kernel
theorem okS_237_1 : okC (pgB 237) (((pgCd 237).drop 4).take 4) = true := by decide +kernel
theorem okS_237_2 : okC (pgB 237) (((pgCd 237).drop 8).take 4) = true := by decide +kernel
theorem okS_237_3 : okC (pgB 237) (((pgCd 237).drop 12).take 4) = true := by decide +kernel
theorem okS_237_4 : okC (pgB 237) (((pgCd 237).drop 16).take 4) = true := by decide +kernel
theorem okS_237_5 : okC (pgB 237) (((pgCd 237).drop 20).take 4) = true := by decide +kernel
theorem okS_237_6 : okC (pgB 237) (((pgCd 237).drop 24).take 2) = true := by decide +kernel
theorem okM_237 : okM (pgRw 237) = true := by decide +kernel
theorem okCd_237 : okC (pgB 237) (pgCd 237) = true := by
  have hz : okC (pgB 237) ((pgCd 237).drop 26) = true := by decide +kernel
  have hz : okC (pgB 237) ((pgCd 237).drop 24) = true := okC_cat _ 2 24 _ okS_237_6 hz
  have hz : okC (pgB 237) ((pgCd 237).drop 20) = true := okC_cat _ 4 20 _ okS_237_5 hz
  have hz : okC (pgB 237) ((pgCd 237).drop 16) = true := okC_cat _ 4 16 _ okS_237_4 hz
  have hz : okC (pgB 237) ((pgCd 237).drop 12) = true := okC_cat _ 4 12 _ okS_237_3 hz
  have hz : okC (pgB 237) ((pgCd 237).drop 8) = true := okC_cat _ 4 8 _ okS_237_2 hz
  have hz : okC (pgB 237) ((pgCd 237).drop 4) = true := okC_cat _ 4 4 _ okS_237_1 hz
  have hz : okC (pgB 237) ((pgCd 237).drop 0) = true := okC_cat _ 4 0 _ okS_237_0 hz
  exact hz
theorem okMid_237 : okMid 237 = true := by unfold okMid; rw [okCd_237, okM_237]; rfl
theorem okMid_238 : okMid 238 = true := by decide +kernel
theorem okMid_239 : okMid 239 = true := by decide +kernel
theorem okS_240_0 : okC (pgB 240) (((pgCd 240).drop 0).take 4) = true := by decide +kernel
theorem okS_240_1 : okC (pgB 240) (((pgCd 240).drop 4).take 4) = true := by decide +kernel
theorem okS_240_2 : okC (pgB 240) (((pgCd 240).drop 8).take 4) = true := by decide +kernel
theorem okS_240_3 : okC (pgB 240) (((pgCd 240).drop 12).take 4) = true := by decide +kernel
theorem okS_240_4 : okC (pgB 240) (((pgCd 240).drop 16).take 4) = true := by decide +kernel
theorem okS_240_5 : okC (pgB 240) (((pgCd 240).drop 20).take 4) = true := by decide +kernel
theorem okS_240_6 : okC (pgB 240) (((pgCd 240).drop 24).take 4) = true := by decide +kernel
theorem okS_240_7 : okC (pgB 240) (((pgCd 240).drop 28).take 4) = true := by decide +kernel
theorem okS_240_8 : okC (pgB 240) (((pgCd 240).drop 32).take 4) = true := by decide +kernel
theorem okS_240_9 : okC (pgB 240) (((pgCd 240).drop 36).take 1) = true := by decide +kernel
theorem okM_240 : okM (pgRw 240) = true := by decide +kernel
theorem okCd_240 : okC (pgB 240) (pgCd 240) = true := by
  have hz : okC (pgB 240) ((pgCd 240).drop 37) = true := by decide +kernel
  have hz : okC (pgB 240) ((pgCd 240).drop 36) = true := okC_cat _ 1 36 _ okS_240_9 hz
  have hz : okC (pgB 240) ((pgCd 240).drop 32) = true := okC_cat _ 4 32 _ okS_240_8 hz
  have hz : okC (pgB 240) ((pgCd 240).drop 28) = true := okC_cat _ 4 28 _ okS_240_7 hz
  have hz : okC (pgB 240) ((pgCd 240).drop 24) = true := okC_cat _ 4 24 _ okS_240_6 hz
  have hz : okC (pgB 240) ((pgCd 240).drop 20) = true := okC_cat _ 4 20 _ okS_240_5 hz
  have hz : okC (pgB 240) ((pgCd 240).drop 16) = true := okC_cat _ 4 16 _ okS_240_4 hz
  have hz : okC (pgB 240) ((pgCd 240).drop 12) = true := okC_cat _ 4 12 _ okS_240_3 hz
  have hz : okC (pgB 240) ((pgCd 240).drop 8) = true := okC_cat _ 4 8 _ okS_240_2 hz
  have hz : okC (pgB 240) ((pgCd 240).drop 4) = true := okC_cat _ 4 4 _ okS_240_1 hz
  have hz : okC (pgB 240) ((pgCd 240).drop 0) = true := okC_cat _ 4 0 _ okS_240_0 hz
  exact hz
theorem okMid_240 : okMid 240 = true := by unfold okMid; rw [okCd_240, okM_240]; rfl
theorem okS_241_0 : okC (pgB 241) (((pgCd 241).drop 0).take 4) = true := by decide +kernel
theorem okS_241_1 : okC (pgB 241) (((pgCd 241).drop 4).take 3) = true := by decide +kernel
theorem okM_241 : okM (pgRw 241) = true := by decide +kernel
theorem okCd_241 : okC (pgB 241) (pgCd 241) = true := by
  have hz : okC (pgB 241) ((pgCd 241).drop 7) = true := by decide +kernel
  have hz : okC (pgB 241) ((pgCd 241).drop 4) = true := okC_cat _ 3 4 _ okS_241_1 hz
  have hz : okC (pgB 241) ((pgCd 241).drop 0) = true := okC_cat _ 4 0 _ okS_241_0 hz
  exact hz
theorem okMid_241 : okMid 241 = true := by unfold okMid; rw [okCd_241, okM_241]; rfl
theorem okS_242_0 : okC (pgB 242) (((pgCd 242).drop 0).take 4) = true := by decide +kernel
theorem okS_242_1 : okC (pgB 242) (((pgCd 242).drop 4).take 4) = true := by decide +kernel
theorem okS_242_2 : okC (pgB 242) (((pgCd 242).drop 8).take 2) = true := by decide +kernel
theorem okM_242 : okM (pgRw 242) = true := by decide +kernel
theorem okCd_242 : okC (pgB 242) (pgCd 242) = true := by
  have hz : okC (pgB 242) ((pgCd 242).drop 10) = true := by decide +kernel
  have hz : okC (pgB 242) ((pgCd 242).drop 8) = true := okC_cat _ 2 8 _ okS_242_2 hz
  have hz : okC (pgB 242) ((pgCd 242).drop 4) = true := okC_cat _ 4 4 _ okS_242_1 hz
  have hz : okC (pgB 242) ((pgCd 242).drop 0) = true := okC_cat _ 4 0 _ okS_242_0 hz
  exact hz
theorem okMid_242 : okMid 242 = true := by unfold okMid; rw [okCd_242, okM_242]; rfl
