theorem okMid_189 : okMid 189 = true := by decide +kernel
theorem okS_190_0 : okC (pgB 190) (((pgCd 190).drop 0).take 4) = true := by decide +kernel
theorem okS_190_1 : okC (pgB 190) (((pgCd 190).drop 4).take 4) = true := by decide +kernel
theorem okS_190_2 : okC (pgB 190) (((pgCd 190).drop 8).take 2) = true := by decide +kernel
theorem okM_190 : okM (pgRw 190) = true := by decide +kernel
theorem okCd_190 : okC (pgB 190) (pgCd 190) = true := by
  have hz : okC (pgB 190) ((pgCd 190).drop 10) = true := by decide +kernel
  have hz : okC (pgB 190) ((pgCd 190).drop 8) = true := okC_cat _ 2 8 _ okS_190_2 hz
  have hz : okC (pgB 190) ((pgCd 190).drop 4) = true := okC_cat _ 4 4 _ okS_190_1 hz
  have hz : okC (pgB 190) ((pgCd 190).drop 0) = true := okC_cat _ 4 0 _ okS_190_0 hz
  exact hz
theorem okMid_190 : okMid 190 = true := by unfold okMid; rw [okCd_190, okM_190]; rfl
theorem okMid_191 : okMid 191 = true := by decide +kernel
theorem okMid_192 : okMid 192 = true := by decide +kernel
theorem okMid_193 : okMid 193 = true := by decide +kernel
theorem okMid_194 : okMid 194 = true := by decide +kernel
theorem okMid_195 : okMid 195 = true := by decide +kernel
theorem okS_196_0 : okC (pgB 196) (((pgCd 196).drop 0).take 4) = true := by decide +kernel
theorem okS_196_1 : okC (pgB 196) (((pgCd 196).drop 4).take 4) = true := by decide +kernel
theorem okS_196_2 : okC (pgB 196) (((pgCd 196).drop 8).take 4) = true := by decide +kernel
theorem okM_196 : okM (pgRw 196) = true := by decide +kernel
theorem okCd_196 : okC (pgB 196) (pgCd 196) = true := by
  have hz : okC (pgB 196) ((pgCd 196).drop 12) = true := by decide +kernel
  have hz : okC (pgB 196) ((pgCd 196).drop 8) = true := okC_cat _ 4 8 _ okS_196_2 hz
  have hz : okC (pgB 196) ((pgCd 196).drop 4) = true := okC_cat _ 4 4 _ okS_196_1 hz
  have hz : okC (pgB 196) ((pgCd 196).drop 0) = true := okC_cat _ 4 0 _ okS_196_0 hz
  exact hz
theorem okMid_196 : okMid 196 = true := by unfold okMid; rw [okCd_196, okM_196]; rfl
theorem okS_197_0 : okC (pgB 197) (((pgCd 197).drop 0).take 4) = true := by decide +kernel
theorem okS_197_1 : okC (pgB 197) (((pgCd 197).drop 4).take 4) = true := by decide +kernel
theorem okS_197_2 : okC (pgB 197) (((pgCd 197).drop 8).take 2) = true := by decide +kernel
theorem okM_197 : okM (pgRw 197) = true := by decide +kernel
theorem okCd_197 : okC (pgB 197) (pgCd 197) = true := by
  have hz : okC (pgB 197) ((pgCd 197).drop 10) = true := by decide +kernel
  have hz : okC (pgB 197) ((pgCd 197).drop 8) = true := okC_cat _ 2 8 _ okS_197_2 hz
  have hz : okC (pgB 197) ((pgCd 197).drop 4) = true := okC_cat _ 4 4 _ okS_197_1 hz
  have hz : okC (pgB 197) ((pgCd 197).drop 0) = true := okC_cat _ 4 0 _ okS_197_0 hz
  exact hz
theorem okMid_197 : okMid 197 = true := by unfold okMid; rw [okCd_197, okM_197]; rfl
theorem okS_198_0 : okC (pgB 198) (((pgCd 198).drop 0).take 4) = true := by decide +kernel
theorem okS_198_1 : okC (pgB 198) (((pgCd 198).drop 4).take 4) = true := by decide +kernel
theorem okS_198_2 : okC (pgB 198) (((pgCd 198).drop 8).take 4) = true := by decide +kernel
theorem okM_198 : okM (pgRw 198) = true := by decide +kernel
theorem okCd_198 : okC (pgB 198) (pgCd 198) = true := by
  have hz : okC (pgB 198) ((pgCd 198).drop 12) = true := by decide +kernel
  have hz : okC (pgB 198) ((pgCd 198).drop 8) = true := okC_cat _ 4 8 _ okS_198_2 hz
  have hz : okC (pgB 198) ((pgCd 198).drop 4) = true := okC_cat _ 4 4 _ okS_198_1 hz
  have hz : okC (pgB 198) ((pgCd 198).drop 0) = true := okC_cat _ 4 0 _ okS_198_0 hz
  exact hz
theorem okMid_198 : okMid 198 = true := by unfold okMid; rw [okCd_198, okM_198]; rfl
theorem okMid_199 : okMid 199 = true := by decide +kernel
theorem okMid_200 : okMid 200 = true := by decide +kernel
theorem okS_201_0 : okC (pgB 201) (((pgCd 201).drop 0).take 4) = true := by decide +kernel
theorem okS_201_1 : okC (pgB 201) (((pgCd 201).drop 4).take 4) = true := by decide +kernel
theorem okS_201_2 : okC (pgB 201) (((pgCd 201).drop 8).take 4) = true := by decide +kernel
theorem okS_201_3 : okC (pgB 201) (((pgCd 201).drop 12).take 4) = true := by decide +kernel
theorem okS_201_4 : okC (pgB 201) (((pgCd 201).drop 16).take 4) = true := by decide +kernel
theorem okS_201_5 : okC (pgB 201) (((pgCd 201).drop 20).take 4) = true := by decide +kernel
theorem okS_201_6 : okC (pgB 201) (((pgCd 201).drop 24).take 4) = true := by decide +kernel
theorem okS_201_7 : okC (pgB 201) (((pgCd 201).drop 28).take 1) = true := by decide +kernel
theorem okM_201 : okM (pgRw 201) = true := by decide +kernel
theorem okCd_201 : okC (pgB 201) (pgCd 201) = true := by
  have hz : okC (pgB 201) ((pgCd 201).drop 29) = true := by decide +kernel
  have hz : okC (pgB 201) ((pgCd 201).drop 28) = true := okC_cat _ 1 28 _ okS_201_7 hz
  have hz : okC (pgB 201) ((pgCd 201).drop 24) = true := okC_cat _ 4 24 _ okS_201_6 hz
  have hz : okC (pgB 201) ((pgCd 201).drop 20) = true := okC_cat _ 4 20 _ okS_201_5 hz
  have hz : okC (pgB 201) ((pgCd 201).drop 16) = true := okC_cat _ 4 16 _ okS_201_4 hz
  have hz : okC (pgB 201) ((pgCd 201).drop 12) = true := okC_cat _ 4 12 _ okS_201_3 hz
  have hz : okC (pgB 201) ((pgCd 201).drop 8) = true := okC_cat _ 4 8 _ okS_201_2 hz
  have hz : okC (pgB 201) ((pgCd 201).drop 4) = true := okC_cat _ 4 4 _ okS_201_1 hz
  have hz : okC (pgB 201) ((pgCd 201).drop 0) = true := okC_cat _ 4 0 _ okS_201_0 hz
  exact hz
theorem okMid_201 : okMid 201 = true := by unfold okMid; rw [okCd_201, okM_201]; rfl
theorem okS_202_0 : okC (pgB 202) (((pgCd 202).drop 0).take 4) = true := by decide +kernel
theorem okS_202_1 : okC (pgB 202) (((pgCd 202).drop 4).take 4) = true := by decide +kernel
theorem okS_202_2 : okC (pgB 202) (((pgCd 202).drop 8).take 4) = true := by decide +kernel
theorem okS_202_3 : okC (pgB 202) (((pgCd 202).drop 12).take 4) = true := by decide +kernel
theorem okS_202_4 : okC (pgB 202) (((pgCd 202).drop 16).take 3) = true := by decide +kernel
theorem okM_202 : okM (pgRw 202) = true := by decide +kernel
theorem okCd_202 : okC (pgB 202) (pgCd 202) = true := by
  have hz : okC (pgB 202) ((pgCd 202).drop 19) = true := by decide +kernel
  have hz : okC (pgB 202) ((pgCd 202).drop 16) = true := okC_cat _ 3 16 _ okS_202_4 hz
  have hz : okC (pgB 202) ((pgCd 202).drop 12) = true := okC_cat _ 4 12 _ okS_202_3 hz
  have hz : okC (pgB 202) ((pgCd 202).drop 8) = true := okC_cat _ 4 8 _ okS_202_2 hz
  have hz : okC (pgB 202) ((pgCd 202).drop 4) = true := okC_cat _ 4 4 _ okS_202_1 hz
  have hz : okC (pgB 202) ((pgCd 202).drop 0) = true := okC_cat _ 4 0 _ okS_202_0 hz
  exact hz
theorem okMid_202 : okMid 202 = true := by unfold okMid; rw [okCd_202, okM_202]; rfl
theorem okMid_203 : okMid 203 = true := by decide +kernel
theorem okS_204_0 : okC (pgB 204) (((pgCd 204).drop 0).take 4) = true := by decide +kernel
theorem okS_204_1 : okC (pgB 204) (((pgCd 204).drop 4).take 4) = true := by decide +kernel
theorem okS_204_2 : okC (pgB 204) (((pgCd 204).drop 8).take 4) = true := by decide +kernel
theorem okS_204_3 : okC (pgB 204) (((pgCd 204).drop 12).take 4) = true := by decide +kernel
theorem okS_204_4 : okC (pgB 204) (((pgCd 204).drop 16).take 4) = true := by decide +kernel
theorem okS_204_5 : okC (pgB 204) (((pgCd 204).drop 20).take 2) = true := by decide +kernel
theorem okM_204 : okM (pgRw 204) = true := by decide +kernel
theorem okCd_204 : okC (pgB 204) (pgCd 204) = true := by
  have hz : okC (pgB 204) ((pgCd 204).drop 22) = true := by decide +kernel
  have hz : okC (pgB 204) ((pgCd 204).drop 20) = true := okC_cat _ 2 20 _ okS_204_5 hz
  have hz : okC (pgB 204) ((pgCd 204).drop 16) = true := okC_cat _ 4 16 _ okS_204_4 hz
  have hz : okC (pgB 204) ((pgCd 204).drop 12) = true := okC_cat _ 4 12 _ okS_204_3 hz
  have hz : okC (pgB 204) ((pgCd 204).drop 8) = true := okC_cat _ 4 8 _ okS_204_2 hz
  have hz : okC (pgB 204) ((pgCd 204).drop 4) = true := okC_cat _ 4 4 _ okS_204_1 hz
  have hz : okC (pgB 204) ((pgCd 204).drop 0) = true := okC_cat _ 4 0 _ okS_204_0 hz
  exact hz
theorem okMid_204 : okMid 204 = true := by unfold okMid; rw [okCd_204, okM_204]; rfl
theorem okS_205_0 : okC (pgB 205) (((pgCd 205).drop 0).take 4) = true := by decide +kernel
theorem okS_205_1 : okC (pgB 205) (((pgCd 205).drop 4).take 4) = true := by decide +kernel
theorem okS_205_2 : okC (pgB 205) (((pgCd 205).drop 8).take 4) = true := by decide +kernel
theorem okM_205 : okM (pgRw 205) = true := by decide +kernel
theorem okCd_205 : okC (pgB 205) (pgCd 205) = true := by
  have hz : okC (pgB 205) ((pgCd 205).drop 12) = true := by decide +kernel
  have hz : okC (pgB 205) ((pgCd 205).drop 8) = true := okC_cat _ 4 8 _ okS_205_2 hz
  have hz : okC (pgB 205) ((pgCd 205).drop 4) = true := okC_cat _ 4 4 _ okS_205_1 hz
  have hz : okC (pgB 205) ((pgCd 205).drop 0) = true := okC_cat _ 4 0 _ okS_205_0 hz
  exact hz
theorem okMid_205 : okMid 205 = true := by unfold okMid; rw [okCd_205, okM_205]; rfl
theorem okMid_206 : okMid 206 = true := by decide +kernel
theorem okMid_207 : okMid 207 = true := by decide +kernel
theorem okMid_208 : okMid 208 = true := by decide +kernel
theorem okS_209_0 : okC (pgB 209) (((pgCd 209).drop 0).take 4) = true := by decide +kernel
theorem okS_209_1 : okC (pgB 209) (((pgCd 209).drop 4).take 4) = true := by decide +kernel
theorem okS_209_2 : okC (pgB 209) (((pgCd 209).drop 8).take 3) = true := by decide +kernel
theorem okM_209 : okM (pgRw 209) = true := by decide +kernel
theorem okCd_209 : okC (pgB 209) (pgCd 209) = true := by
  have hz : okC (pgB 209) ((pgCd 209).drop 11) = true := by decide +kernel
  have hz : okC (pgB 209) ((pgCd 209).drop 8) = true := okC_cat _ 3 8 _ okS_209_2 hz
  have hz : okC (pgB 209) ((pgCd 209).drop 4) = true := okC_cat _ 4 4 _ okS_209_1 hz
  have hz : okC (pgB 209) ((pgCd 209).drop 0) = true := okC_cat _ 4 0 _ okS_209_0 hz
  exact hz
theorem okMid_209 : okMid 209 = true := by unfold okMid; rw [okCd_209, okM_209]; rfl
theorem okS_210_0 : okC (pgB 210) (((pgCd 210).drop 0).take 4) = true := by decide +kernel
theorem okS_210_1 : okC (pgB 210) (((pgCd 210).drop 4).take 4) = true := by decide +kernel
theorem okS_210_2 : okC (pgB 210) (((pgCd 210).drop 8).take 1) = true := by decide +kernel
theorem okM_210 : okM (pgRw 210) = true := by decide +kernel
theorem okCd_210 : okC (pgB 210) (pgCd 210) = true := by
  have hz : okC (pgB 210) ((pgCd 210).drop 9) = true := by decide +kernel
  have hz : okC (pgB 210) ((pgCd 210).drop 8) = true := okC_cat _ 1 8 _ okS_210_2 hz
  have hz : okC (pgB 210) ((pgCd 210).drop 4) = true := okC_cat _ 4 4 _ okS_210_1 hz
  have hz : okC (pgB 210) ((pgCd 210).drop 0) = true := okC_cat _ 4 0 _ okS_210_0 hz
  exact hz
theorem okMid_210 : okMid 210 = true := by unfold okMid; rw [okCd_210, okM_210]; rfl
theorem okS_211_0 : okC (pgB 211) (((pgCd 211).drop 0).take 4) = true := by decide +kernel
theorem okS_211_1 : okC (pgB 211) (((pgCd 211).drop 4).take 4) = true := by decide +kernel
theorem okS_211_2 : okC (pgB 211) (((pgCd 211).drop 8).take 1) = true := by decide +kernel
theorem okM_211 : okM (pgRw 211) = true := by decide +kernel
theorem okCd_211 : okC (pgB 211) (pgCd 211) = true := by
  have hz : okC (pgB 211) ((pgCd 211).drop 9) = true := by decide +kernel
  have hz : okC (pgB 211) ((pgCd 211).drop 8) = true := okC_cat _ 1 8 _ okS_211_2 hz
  have hz : okC (pgB 211) ((pgCd 211).drop 4) = true := okC_cat _ 4 4 _ okS_211_1 hz
  have hz : okC (pgB 211) ((pgCd 211).drop 0) = true := okC_cat _ 4 0 _ okS_211_0 hz
  exact hz
theorem okMid_211 : okMid 211 = true := by unfold okMid; rw [okCd_211, okM_211]; rfl
theorem okMid_212 : okMid 212 = true := by decide +kernel
theorem okS_213_0 : okC (pgB 213) (((pgCd 213).drop 0).take 4) = true := by decide +kernel
theorem okS_213_1 : okC (pgB 213) (((pgCd 213).drop 4).take 4) = true := by decide +kernel
theorem okM_213 : okM (pgRw 213) = true := by decide +kernel
theorem okCd_213 : okC (pgB 213) (pgCd 213) = true := by
  have hz : okC (pgB 213) ((pgCd 213).drop 8) = true := by decide +kernel
  have hz : okC (pgB 213) ((pgCd 213).drop 4) = true := okC_cat _ 4 4 _ okS_213_1 hz
  have hz : okC (pgB 213) ((pgCd 213).drop 0) = true := okC_cat _ 4 0 _ okS_213_0 hz
  exact hz
theorem okMid_213 : okMid 213 = true := by unfold okMid; rw [okCd_213, okM_213]; rfl
theorem okS_214_0 : okC (pgB 214) (((pgCd 214).drop 0).take 4) = true := by decide +kernel
theorem okS_214_1 : okC (pgB 214) (((pgCd 214).drop 4).take 4) = true := by decide +kernel
theorem okS_214_2 : okC (pgB 214) (((pgCd 214).drop 8).take 2) = true := by decide +kernel
theorem okM_214 : okM (pgRw 214) = true := by decide +kernel
theorem okCd_214 : okC (pgB 214) (pgCd 214) = true := by
  have hz : okC (pgB 214) ((pgCd 214).drop 10) = true := by decide +kernel
  have hz : okC (pgB 214) ((pgCd 214).drop 8) = true := okC_cat _ 2 8 _ okS_214_2 hz
  have hz : okC (pgB 214) ((pgCd 214).drop 4) = true := okC_cat _ 4 4 _ okS_214_1 hz
  have hz : okC (pgB 214) ((pgCd 214).drop 0) = true := okC_cat _ 4 0 _ okS_214_0 hz
  exact hz
theorem okMid_214 : okMid 214 = true := by unfold okMid; rw [okCd_214, okM_214]; rfl
theorem okS_215_0 : okC (pgB 215) (((pgCd 215).drop 0).take 4) = true := by decide +kernel
theorem okS_215_1 : okC (pgB 215) (((pgCd 215).drop 4).take 4) = true := by decide +kernel
theorem okS_215_2 : okC (pgB 215) (((pgCd 215).drop 8).take 4) = true := by decide +kernel
theorem okS_215_3 : okC (pgB 215) (((pgCd 215).drop 12).take 4) = true := by decide +kernel
theorem okS_215_4 : okC (pgB 215) (((pgCd 215).drop 16).take 4) = true := by decide +kernel
theorem okS_215_5 : okC (pgB 215) (((pgCd 215).drop 20).take 4) = true := by decide +kernel
theorem okS_215_6 : okC (pgB 215) (((pgCd 215).drop 24).take 4) = true := by decide +kernel
theorem okS_215_7 : okC (pgB 215) (((pgCd 215).drop 28).take 1) = true := by decide +kernel
theorem okM_215 : okM (pgRw 215) = true := by decide +kernel
theorem okCd_215 : okC (pgB 215) (pgCd 215) = true := by
  have hz : okC (pgB 215) ((pgCd 215).drop 29) = true := by decide +kernel
  have hz : okC (pgB 215) ((pgCd 215).drop 28) = true := okC_cat _ 1 28 _ okS_215_7 hz
  have hz : okC (pgB 215) ((pgCd 215).drop 24) = true := okC_cat _ 4 24 _ okS_215_6 hz
  have hz : okC (pgB 215) ((pgCd 215).drop 20) = true := okC_cat _ 4 20 _ okS_215_5 hz
  have hz : okC (pgB 215) ((pgCd 215).drop 16) = true := okC_cat _ 4 16 _ okS_215_4 hz
  have hz : okC (pgB 215) ((pgCd 215).drop 12) = true := okC_cat _ 4 12 _ okS_215_3 hz
  have hz : okC (pgB 215) ((pgCd 215).drop 8) = true := okC_cat _ 4 8 _ okS_215_2 hz
  have hz : okC (pgB 215) ((pgCd 215).drop 4) = true := okC_cat _ 4 4 _ okS_215_1 hz
  have hz : okC (pgB 215) ((pgCd 215).drop 0) = true := okC_cat _ 4 0 _ okS_215_0 hz
  exact hz
theorem okMid_215 : okMid 215 = true := by unfold okMid; rw [okCd_215, okM_215]; rfl
theorem okS_216_0 : okC (pgB 216) (((pgCd 216).drop 0).take 4) = true := by decide +kernel
theorem okS_216_1 : okC (pgB 216) (((pgCd 216).drop 4).take 4) = true := by decide +kernel
theorem okS_216_2 : okC (pgB 216) (((pgCd 216).drop 8).take 3) = true := by decide +kernel
theorem okM_216 : okM (pgRw 216) = true := by decide +kernel
theorem okCd_216 : okC (pgB 216) (pgCd 216) = true := by
  have hz : okC (pgB 216) ((pgCd 216).drop 11) = true := by decide +kernel
  have hz : okC (pgB 216) ((pgCd 216).drop 8) = true := okC_cat _ 3 8 _ okS_216_2 hz
  have hz : okC (pgB 216) ((pgCd 216).drop 4) = true := okC_cat _ 4 4 _ okS_216_1 hz
  have hz : okC (pgB 216) ((pgCd 216).drop 0) = true := okC_cat _ 4 0 _ okS_216_0 hz
  exact hz
theorem okMid_216 : okMid 216 = true := by unfold okMid; rw [okCd_216, okM_216]; rfl
theorem okS_217_0 : okC (pgB 217) (((pgCd 217).drop 0).take 4) = true := by decide +kernel
theorem okS_217_1 : okC (pgB 217) (((pgCd 217).drop 4).take 4) = true := by decide +kernel
theorem okS_217_2 : okC (pgB 217) (((pgCd 217).drop 8).take 4) = true := by decide +kernel
theorem okM_217 : okM (pgRw 217) = true := by decide +kernel
theorem okCd_217 : okC (pgB 217) (pgCd 217) = true := by
  have hz : okC (pgB 217) ((pgCd 217).drop 12) = true := by decide +kernel
  have hz : okC (pgB 217) ((pgCd 217).drop 8) = true := okC_cat _ 4 8 _ okS_217_2 hz
  have hz : okC (pgB 217) ((pgCd 217).drop 4) = true := okC_cat _ 4 4 _ okS_217_1 hz
  have hz : okC (pgB 217) ((pgCd 217).drop 0) = true := okC_cat _ 4 0 _ okS_217_0 hz
  exact hz
theorem okMid_217 : okMid 217 = true := by unfold okMid; rw [okCd_217, okM_217]; rfl
theorem okS_218_0 : okC (pgB 218) (((pgCd 218).drop 0).take 4) = true := by decide +kernel
theorem okS_218_1 : okC (pgB 218) (((pgCd 218).drop 4).take 4) = true := by decide +kernel
theorem okS_218_2 : okC (pgB 218) (((pgCd 218).drop 8).take 3) = true := by decide +kernel
theorem okM_218 : okM (pgRw 218) = true := by decide +kernel
theorem okCd_218 : okC (pgB 218) (pgCd 218) = true := by
  have hz : okC (pgB 218) ((pgCd 218).drop 11) = true := by decide +kernel
  have hz : okC (pgB 218) ((pgCd 218).drop 8) = true := okC_cat _ 3 8 _ okS_218_2 hz
  have hz : okC (pgB 218) ((pgCd 218).drop 4) = true := okC_cat _ 4 4 _ okS_218_1 hz
  have hz : okC (pgB 218) ((pgCd 218).drop 0) = true := okC_cat _ 4 0 _ okS_218_0 hz
  exact hz
theorem okMid_218 : okMid 218 = true := by unfold okMid; rw [okCd_218, okM_218]; rfl
